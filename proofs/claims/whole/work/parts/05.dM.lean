theorem dX12_init_0 : decode cX12_init 0 = .ok (.aload_n 0, 1) := by decide +kernel
theorem dX12_init_1 : decode cX12_init 1 = .ok (.invokespecial 1, 3) := by decide +kernel
theorem dX12_init_4 : decode cX12_init 4 = .ok (.aload_n 0, 1) := by decide +kernel
theorem dX12_init_5 : decode cX12_init 5 = .ok (.sipush 1090, 3) := by decide +kernel
theorem dX12_init_8 : decode cX12_init 8 = .ok (.newarray .int, 2) := by decide +kernel
theorem dX12_init_10 : decode cX12_init 10 = .ok (.putfield 9, 3) := by decide +kernel
theorem dX12_init_13 : decode cX12_init 13 = .ok (.aload_n 0, 1) := by decide +kernel
theorem dX12_init_14 : decode cX12_init 14 = .ok (.sipush 17440, 3) := by decide +kernel
theorem dX12_init_17 : decode cX12_init 17 = .ok (.newarray .int, 2) := by decide +kernel
theorem dX12_init_19 : decode cX12_init 19 = .ok (.putfield 13, 3) := by decide +kernel
theorem dX12_init_22 : decode cX12_init 22 = .ok (.aload_n 0, 1) := by decide +kernel
theorem dX12_init_23 : decode cX12_init 23 = .ok (.sipush 600, 3) := by decide +kernel
theorem dX12_init_26 : decode cX12_init 26 = .ok (.newarray .int, 2) := by decide +kernel
theorem dX12_init_28 : decode cX12_init 28 = .ok (.putfield 16, 3) := by decide +kernel
theorem dX12_init_31 : decode cX12_init 31 = .ok (.aload_n 0, 1) := by decide +kernel
theorem dX12_init_32 : decode cX12_init 32 = .ok (.bipush 10, 2) := by decide +kernel
theorem dX12_init_34 : decode cX12_init 34 = .ok (.newarray .int, 2) := by decide +kernel
theorem dX12_init_36 : decode cX12_init 36 = .ok (.putfield 19, 3) := by decide +kernel
theorem dX12_init_39 : decode cX12_init 39 = .ok (.aload_n 0, 1) := by decide +kernel
theorem dX12_init_40 : decode cX12_init 40 = .ok (.bipush 10, 2) := by decide +kernel
theorem dX12_init_42 : decode cX12_init 42 = .ok (.newarray .int, 2) := by decide +kernel
theorem dX12_init_44 : decode cX12_init 44 = .ok (.putfield 22, 3) := by decide +kernel
theorem dX12_init_47 : decode cX12_init 47 = .ok (.aload_n 0, 1) := by decide +kernel
theorem dX12_init_48 : decode cX12_init 48 = .ok (.bipush 10, 2) := by decide +kernel
theorem dX12_init_50 : decode cX12_init 50 = .ok (.newarray .int, 2) := by decide +kernel
theorem dX12_init_52 : decode cX12_init 52 = .ok (.putfield 25, 3) := by decide +kernel
theorem dX12_init_55 : decode cX12_init 55 = .ok (.aload_n 0, 1) := by decide +kernel
theorem dX12_init_56 : decode cX12_init 56 = .ok (.sipush 600, 3) := by decide +kernel
theorem dX12_init_59 : decode cX12_init 59 = .ok (.newarray .int, 2) := by decide +kernel
theorem dX12_init_61 : decode cX12_init 61 = .ok (.putfield 28, 3) := by decide +kernel
theorem dX12_init_64 : decode cX12_init 64 = .ok (.aload_n 0, 1) := by decide +kernel
theorem dX12_init_65 : decode cX12_init 65 = .ok (.sipush 600, 3) := by decide +kernel
theorem dX12_init_68 : decode cX12_init 68 = .ok (.newarray .int, 2) := by decide +kernel
theorem dX12_init_70 : decode cX12_init 70 = .ok (.putfield 31, 3) := by decide +kernel
theorem dX12_init_73 : decode cX12_init 73 = .ok (.aload_n 0, 1) := by decide +kernel
theorem dX12_init_74 : decode cX12_init 74 = .ok (.bipush 60, 2) := by decide +kernel
theorem dX12_init_76 : decode cX12_init 76 = .ok (.newarray .long, 2) := by decide +kernel
theorem dX12_init_78 : decode cX12_init 78 = .ok (.putfield 34, 3) := by decide +kernel
theorem dX12_init_81 : decode cX12_init 81 = .ok (.aload_n 0, 1) := by decide +kernel
theorem dX12_init_82 : decode cX12_init 82 = .ok (.bipush 60, 2) := by decide +kernel
theorem dX12_init_84 : decode cX12_init 84 = .ok (.newarray .long, 2) := by decide +kernel
theorem dX12_init_86 : decode cX12_init 86 = .ok (.putfield 38, 3) := by decide +kernel
theorem dX12_init_89 : decode cX12_init 89 = .ok (.aload_n 0, 1) := by decide +kernel
theorem dX12_init_90 : decode cX12_init 90 = .ok (.bipush 8, 2) := by decide +kernel
theorem dX12_init_92 : decode cX12_init 92 = .ok (.newarray .long, 2) := by decide +kernel
theorem dX12_init_94 : decode cX12_init 94 = .ok (.putfield 41, 3) := by decide +kernel
theorem dX12_init_97 : decode cX12_init 97 = .ok (.aload_n 0, 1) := by decide +kernel
theorem dX12_init_98 : decode cX12_init 98 = .ok (.bipush 8, 2) := by decide +kernel
theorem dX12_init_100 : decode cX12_init 100 = .ok (.newarray .long, 2) := by decide +kernel
theorem dX12_init_102 : decode cX12_init 102 = .ok (.putfield 44, 3) := by decide +kernel
theorem dX12_init_105 : decode cX12_init 105 = .ok (.aload_n 0, 1) := by decide +kernel
theorem dX12_init_106 : decode cX12_init 106 = .ok (.bipush 60, 2) := by decide +kernel
theorem dX12_init_108 : decode cX12_init 108 = .ok (.newarray .long, 2) := by decide +kernel
theorem dX12_init_110 : decode cX12_init 110 = .ok (.putfield 47, 3) := by decide +kernel
theorem dX12_init_113 : decode cX12_init 113 = .ok (.aload_n 0, 1) := by decide +kernel
theorem dX12_init_114 : decode cX12_init 114 = .ok (.bipush 60, 2) := by decide +kernel
theorem dX12_init_116 : decode cX12_init 116 = .ok (.newarray .long, 2) := by decide +kernel
theorem dX12_init_118 : decode cX12_init 118 = .ok (.putfield 50, 3) := by decide +kernel
theorem dX12_init_121 : decode cX12_init 121 = .ok (.aload_n 0, 1) := by decide +kernel
theorem dX12_init_122 : decode cX12_init 122 = .ok (.sipush 900, 3) := by decide +kernel
theorem dX12_init_125 : decode cX12_init 125 = .ok (.newarray .int, 2) := by decide +kernel
theorem dX12_init_127 : decode cX12_init 127 = .ok (.putfield 53, 3) := by decide +kernel
theorem dX12_init_130 : decode cX12_init 130 = .ok (.aload_n 0, 1) := by decide +kernel
theorem dX12_init_131 : decode cX12_init 131 = .ok (.sipush 200, 3) := by decide +kernel
theorem dX12_init_134 : decode cX12_init 134 = .ok (.newarray .int, 2) := by decide +kernel
theorem dX12_init_136 : decode cX12_init 136 = .ok (.putfield 56, 3) := by decide +kernel
theorem dX12_init_139 : decode cX12_init 139 = .ok (.aload_n 0, 1) := by decide +kernel
theorem dX12_init_140 : decode cX12_init 140 = .ok (.bipush 100, 2) := by decide +kernel
theorem dX12_init_142 : decode cX12_init 142 = .ok (.newarray .int, 2) := by decide +kernel
theorem dX12_init_144 : decode cX12_init 144 = .ok (.putfield 59, 3) := by decide +kernel
theorem dX12_init_147 : decode cX12_init 147 = .ok (.aload_n 0, 1) := by decide +kernel
theorem dX12_init_148 : decode cX12_init 148 = .ok (.iconst (-1), 1) := by decide +kernel
theorem dX12_init_149 : decode cX12_init 149 = .ok (.putfield 62, 3) := by decide +kernel
theorem dX12_init_152 : decode cX12_init 152 = .ok (.iconst 0, 1) := by decide +kernel
theorem dX12_init_153 : decode cX12_init 153 = .ok (.istore_n 1, 1) := by decide +kernel
theorem dX12_init_154 : decode cX12_init 154 = .ok (.iload_n 1, 1) := by decide +kernel
theorem dX12_init_155 : decode cX12_init 155 = .ok (.bipush 10, 2) := by decide +kernel
theorem dX12_init_157 : decode cX12_init 157 = .ok (.if_icmp .ge 16, 3) := by decide +kernel
theorem dX12_init_160 : decode cX12_init 160 = .ok (.aload_n 0, 1) := by decide +kernel
theorem dX12_init_161 : decode cX12_init 161 = .ok (.iload_n 1, 1) := by decide +kernel
theorem dX12_init_162 : decode cX12_init 162 = .ok (.iconst 2, 1) := by decide +kernel
theorem dX12_init_163 : decode cX12_init 163 = .ok (.iconst 1, 1) := by decide +kernel
theorem dX12_init_164 : decode cX12_init 164 = .ok (.invokevirtual 66, 3) := by decide +kernel
theorem dX12_init_167 : decode cX12_init 167 = .ok (.iinc 1 1, 3) := by decide +kernel
theorem dX12_init_170 : decode cX12_init 170 = .ok (.goto (-16), 3) := by decide +kernel
theorem dX12_init_173 : decode cX12_init 173 = .ok (.aload_n 0, 1) := by decide +kernel
theorem dX12_init_174 : decode cX12_init 174 = .ok (.invokevirtual 70, 3) := by decide +kernel
theorem dX12_init_177 : decode cX12_init 177 = .ok (.return_, 1) := by decide +kernel
theorem dX12_thrown_0 : decode cX12_thrown 0 = .ok (.aload_n 0, 1) := by decide +kernel
theorem dX12_thrown_1 : decode cX12_thrown 1 = .ok (.getfield 73, 3) := by decide +kernel
theorem dX12_thrown_4 : decode cX12_thrown 4 = .ok (.ireturn, 1) := by decide +kernel
theorem dX12_fail_0 : decode cX12_fail 0 = .ok (.aload_n 0, 1) := by decide +kernel
theorem dX12_fail_1 : decode cX12_fail 1 = .ok (.iload_n 1, 1) := by decide +kernel
theorem dX12_fail_2 : decode cX12_fail 2 = .ok (.putfield 73, 3) := by decide +kernel
theorem dX12_fail_5 : decode cX12_fail 5 = .ok (.iconst 0, 1) := by decide +kernel
theorem dX12_fail_6 : decode cX12_fail 6 = .ok (.ireturn, 1) := by decide +kernel
theorem dX12_isIn_0 : decode cX12_isIn 0 = .ok (.lload_n 0, 1) := by decide +kernel
theorem dX12_isIn_1 : decode cX12_isIn 1 = .ok (.lload_n 2, 1) := by decide +kernel
theorem dX12_isIn_2 : decode cX12_isIn 2 = .ok (.lcmp, 1) := by decide +kernel
theorem dX12_isIn_3 : decode cX12_isIn 3 = .ok (.ifCond .lt 14, 3) := by decide +kernel
theorem dX12_isIn_6 : decode cX12_isIn 6 = .ok (.lload_n 0, 1) := by decide +kernel
theorem dX12_isIn_7 : decode cX12_isIn 7 = .ok (.lload 4, 2) := by decide +kernel
theorem dX12_isIn_9 : decode cX12_isIn 9 = .ok (.lcmp, 1) := by decide +kernel
theorem dX12_isIn_10 : decode cX12_isIn 10 = .ok (.ifCond .gt 7, 3) := by decide +kernel
theorem dX12_isIn_13 : decode cX12_isIn 13 = .ok (.iconst 1, 1) := by decide +kernel
theorem dX12_isIn_14 : decode cX12_isIn 14 = .ok (.goto 4, 3) := by decide +kernel
theorem dX12_isIn_17 : decode cX12_isIn 17 = .ok (.iconst 0, 1) := by decide +kernel
theorem dX12_isIn_18 : decode cX12_isIn 18 = .ok (.ireturn, 1) := by decide +kernel
theorem dX12_isRow_0 : decode cX12_isRow 0 = .ok (.iload_n 0, 1) := by decide +kernel
theorem dX12_isRow_1 : decode cX12_isRow 1 = .ok (.i2l, 1) := by decide +kernel
theorem dX12_isRow_2 : decode cX12_isRow 2 = .ok (.lconst 0, 1) := by decide +kernel
theorem dX12_isRow_3 : decode cX12_isRow 3 = .ok (.ldc2_w 76, 3) := by decide +kernel
theorem dX12_isRow_6 : decode cX12_isRow 6 = .ok (.invokestatic 78, 3) := by decide +kernel
theorem dX12_isRow_9 : decode cX12_isRow 9 = .ok (.ireturn, 1) := by decide +kernel
theorem dX12_of1_0 : decode cX12_of1 0 = .ok (.aload_n 0, 1) := by decide +kernel
theorem dX12_of1_1 : decode cX12_of1 1 = .ok (.getfield 9, 3) := by decide +kernel
theorem dX12_of1_4 : decode cX12_of1 4 = .ok (.bipush 109, 2) := by decide +kernel
theorem dX12_of1_6 : decode cX12_of1 6 = .ok (.iload_n 1, 1) := by decide +kernel
theorem dX12_of1_7 : decode cX12_of1 7 = .ok (.imul, 1) := by decide +kernel
theorem dX12_of1_8 : decode cX12_of1 8 = .ok (.iload_n 2, 1) := by decide +kernel
theorem dX12_of1_9 : decode cX12_of1 9 = .ok (.iadd, 1) := by decide +kernel
theorem dX12_of1_10 : decode cX12_of1 10 = .ok (.iaload, 1) := by decide +kernel
theorem dX12_of1_11 : decode cX12_of1 11 = .ok (.ireturn, 1) := by decide +kernel
theorem dX12_put_0 : decode cX12_put 0 = .ok (.aload_n 0, 1) := by decide +kernel
theorem dX12_put_1 : decode cX12_put 1 = .ok (.getfield 9, 3) := by decide +kernel
theorem dX12_put_4 : decode cX12_put 4 = .ok (.bipush 109, 2) := by decide +kernel
theorem dX12_put_6 : decode cX12_put 6 = .ok (.iload_n 1, 1) := by decide +kernel
theorem dX12_put_7 : decode cX12_put 7 = .ok (.imul, 1) := by decide +kernel
theorem dX12_put_8 : decode cX12_put 8 = .ok (.iload_n 2, 1) := by decide +kernel
theorem dX12_put_9 : decode cX12_put 9 = .ok (.iadd, 1) := by decide +kernel
theorem dX12_put_10 : decode cX12_put 10 = .ok (.iload_n 3, 1) := by decide +kernel
theorem dX12_put_11 : decode cX12_put 11 = .ok (.iastore, 1) := by decide +kernel
theorem dX12_put_12 : decode cX12_put 12 = .ok (.return_, 1) := by decide +kernel
theorem dX12_termOf_0 : decode cX12_termOf 0 = .ok (.aload_n 0, 1) := by decide +kernel
theorem dX12_termOf_1 : decode cX12_termOf 1 = .ok (.getfield 16, 3) := by decide +kernel
theorem dX12_termOf_4 : decode cX12_termOf 4 = .ok (.bipush 60, 2) := by decide +kernel
theorem dX12_termOf_6 : decode cX12_termOf 6 = .ok (.iload_n 1, 1) := by decide +kernel
theorem dX12_termOf_7 : decode cX12_termOf 7 = .ok (.imul, 1) := by decide +kernel
theorem dX12_termOf_8 : decode cX12_termOf 8 = .ok (.iload_n 2, 1) := by decide +kernel
theorem dX12_termOf_9 : decode cX12_termOf 9 = .ok (.iadd, 1) := by decide +kernel
theorem dX12_termOf_10 : decode cX12_termOf 10 = .ok (.iaload, 1) := by decide +kernel
theorem dX12_termOf_11 : decode cX12_termOf 11 = .ok (.ireturn, 1) := by decide +kernel
theorem dX12_isKnown_0 : decode cX12_isKnown 0 = .ok (.iload_n 2, 1) := by decide +kernel
theorem dX12_isKnown_1 : decode cX12_isKnown 1 = .ok (.i2l, 1) := by decide +kernel
theorem dX12_isKnown_2 : decode cX12_isKnown 2 = .ok (.lconst 0, 1) := by decide +kernel
theorem dX12_isKnown_3 : decode cX12_isKnown 3 = .ok (.aload_n 0, 1) := by decide +kernel
theorem dX12_isKnown_4 : decode cX12_isKnown 4 = .ok (.getfield 19, 3) := by decide +kernel
theorem dX12_isKnown_7 : decode cX12_isKnown 7 = .ok (.iload_n 1, 1) := by decide +kernel
theorem dX12_isKnown_8 : decode cX12_isKnown 8 = .ok (.iaload, 1) := by decide +kernel
theorem dX12_isKnown_9 : decode cX12_isKnown 9 = .ok (.iconst 1, 1) := by decide +kernel
theorem dX12_isKnown_10 : decode cX12_isKnown 10 = .ok (.isub, 1) := by decide +kernel
theorem dX12_isKnown_11 : decode cX12_isKnown 11 = .ok (.i2l, 1) := by decide +kernel
theorem dX12_isKnown_12 : decode cX12_isKnown 12 = .ok (.invokestatic 78, 3) := by decide +kernel
theorem dX12_isKnown_15 : decode cX12_isKnown 15 = .ok (.ireturn, 1) := by decide +kernel
theorem dX12_knows_0 : decode cX12_knows 0 = .ok (.aload_n 0, 1) := by decide +kernel
theorem dX12_knows_1 : decode cX12_knows 1 = .ok (.getfield 16, 3) := by decide +kernel
theorem dX12_knows_4 : decode cX12_knows 4 = .ok (.bipush 60, 2) := by decide +kernel
theorem dX12_knows_6 : decode cX12_knows 6 = .ok (.iload_n 1, 1) := by decide +kernel
theorem dX12_knows_7 : decode cX12_knows 7 = .ok (.imul, 1) := by decide +kernel
theorem dX12_knows_8 : decode cX12_knows 8 = .ok (.aload_n 0, 1) := by decide +kernel
theorem dX12_knows_9 : decode cX12_knows 9 = .ok (.getfield 19, 3) := by decide +kernel
theorem dX12_knows_12 : decode cX12_knows 12 = .ok (.iload_n 1, 1) := by decide +kernel
theorem dX12_knows_13 : decode cX12_knows 13 = .ok (.iaload, 1) := by decide +kernel
theorem dX12_knows_14 : decode cX12_knows 14 = .ok (.iadd, 1) := by decide +kernel
theorem dX12_knows_15 : decode cX12_knows 15 = .ok (.lload_n 2, 1) := by decide +kernel
theorem dX12_knows_16 : decode cX12_knows 16 = .ok (.l2i, 1) := by decide +kernel
theorem dX12_knows_17 : decode cX12_knows 17 = .ok (.iastore, 1) := by decide +kernel
theorem dX12_knows_18 : decode cX12_knows 18 = .ok (.aload_n 0, 1) := by decide +kernel
theorem dX12_knows_19 : decode cX12_knows 19 = .ok (.getfield 19, 3) := by decide +kernel
theorem dX12_knows_22 : decode cX12_knows 22 = .ok (.iload_n 1, 1) := by decide +kernel
theorem dX12_knows_23 : decode cX12_knows 23 = .ok (.dup2, 1) := by decide +kernel
theorem dX12_knows_24 : decode cX12_knows 24 = .ok (.iaload, 1) := by decide +kernel
theorem dX12_knows_25 : decode cX12_knows 25 = .ok (.iconst 1, 1) := by decide +kernel
theorem dX12_knows_26 : decode cX12_knows 26 = .ok (.iadd, 1) := by decide +kernel
theorem dX12_knows_27 : decode cX12_knows 27 = .ok (.iastore, 1) := by decide +kernel
theorem dX12_knows_28 : decode cX12_knows 28 = .ok (.aload_n 0, 1) := by decide +kernel
theorem dX12_knows_29 : decode cX12_knows 29 = .ok (.getfield 19, 3) := by decide +kernel
theorem dX12_knows_32 : decode cX12_knows 32 = .ok (.iload_n 1, 1) := by decide +kernel
theorem dX12_knows_33 : decode cX12_knows 33 = .ok (.iaload, 1) := by decide +kernel
theorem dX12_knows_34 : decode cX12_knows 34 = .ok (.bipush 60, 2) := by decide +kernel
theorem dX12_knows_36 : decode cX12_knows 36 = .ok (.if_icmp .ge 7, 3) := by decide +kernel
theorem dX12_knows_39 : decode cX12_knows 39 = .ok (.iconst 1, 1) := by decide +kernel
theorem dX12_knows_40 : decode cX12_knows 40 = .ok (.goto 4, 3) := by decide +kernel
theorem dX12_knows_43 : decode cX12_knows 43 = .ok (.iconst 0, 1) := by decide +kernel
theorem dX12_knows_44 : decode cX12_knows 44 = .ok (.ireturn, 1) := by decide +kernel
theorem dX12_layAll_0 : decode cX12_layAll 0 = .ok (.iconst 0, 1) := by decide +kernel
theorem dX12_layAll_1 : decode cX12_layAll 1 = .ok (.istore_n 1, 1) := by decide +kernel
theorem dX12_layAll_2 : decode cX12_layAll 2 = .ok (.iload_n 1, 1) := by decide +kernel
theorem dX12_layAll_3 : decode cX12_layAll 3 = .ok (.bipush 10, 2) := by decide +kernel
theorem dX12_layAll_5 : decode cX12_layAll 5 = .ok (.if_icmp .ge 28, 3) := by decide +kernel
theorem dX12_layAll_8 : decode cX12_layAll 8 = .ok (.aload_n 0, 1) := by decide +kernel
theorem dX12_layAll_9 : decode cX12_layAll 9 = .ok (.getfield 19, 3) := by decide +kernel
theorem dX12_layAll_12 : decode cX12_layAll 12 = .ok (.iload_n 1, 1) := by decide +kernel
theorem dX12_layAll_13 : decode cX12_layAll 13 = .ok (.iconst 0, 1) := by decide +kernel
theorem dX12_layAll_14 : decode cX12_layAll 14 = .ok (.iastore, 1) := by decide +kernel
theorem dX12_layAll_15 : decode cX12_layAll 15 = .ok (.aload_n 0, 1) := by decide +kernel
theorem dX12_layAll_16 : decode cX12_layAll 16 = .ok (.getfield 25, 3) := by decide +kernel
theorem dX12_layAll_19 : decode cX12_layAll 19 = .ok (.iload_n 1, 1) := by decide +kernel
theorem dX12_layAll_20 : decode cX12_layAll 20 = .ok (.iconst 0, 1) := by decide +kernel
theorem dX12_layAll_21 : decode cX12_layAll 21 = .ok (.iastore, 1) := by decide +kernel
theorem dX12_layAll_22 : decode cX12_layAll 22 = .ok (.aload_n 0, 1) := by decide +kernel
theorem dX12_layAll_23 : decode cX12_layAll 23 = .ok (.iload_n 1, 1) := by decide +kernel
theorem dX12_layAll_24 : decode cX12_layAll 24 = .ok (.invokevirtual 82, 3) := by decide +kernel
theorem dX12_layAll_27 : decode cX12_layAll 27 = .ok (.iinc 1 1, 3) := by decide +kernel
theorem dX12_layAll_30 : decode cX12_layAll 30 = .ok (.goto (-28), 3) := by decide +kernel
theorem dX12_layAll_33 : decode cX12_layAll 33 = .ok (.return_, 1) := by decide +kernel
theorem dX12_lay_0 : decode cX12_lay 0 = .ok (.aload_n 0, 1) := by decide +kernel
theorem dX12_lay_1 : decode cX12_lay 1 = .ok (.iload_n 1, 1) := by decide +kernel
theorem dX12_lay_2 : decode cX12_lay 2 = .ok (.iconst 0, 1) := by decide +kernel
theorem dX12_lay_3 : decode cX12_lay 3 = .ok (.invokevirtual 86, 3) := by decide +kernel
theorem dX12_lay_6 : decode cX12_lay 6 = .ok (.tableswitch 64 0 2 #[26, 48, 56], 26) := by decide +kernel
theorem dX12_lay_32 : decode cX12_lay 32 = .ok (.aload_n 0, 1) := by decide +kernel
theorem dX12_lay_33 : decode cX12_lay 33 = .ok (.iload_n 1, 1) := by decide +kernel
theorem dX12_lay_34 : decode cX12_lay 34 = .ok (.aload_n 0, 1) := by decide +kernel
theorem dX12_lay_35 : decode cX12_lay 35 = .ok (.iload_n 1, 1) := by decide +kernel
theorem dX12_lay_36 : decode cX12_lay 36 = .ok (.iconst 1, 1) := by decide +kernel
theorem dX12_lay_37 : decode cX12_lay 37 = .ok (.invokevirtual 86, 3) := by decide +kernel
theorem dX12_lay_40 : decode cX12_lay 40 = .ok (.i2l, 1) := by decide +kernel
theorem dX12_lay_41 : decode cX12_lay 41 = .ok (.aload_n 0, 1) := by decide +kernel
theorem dX12_lay_42 : decode cX12_lay 42 = .ok (.iload_n 1, 1) := by decide +kernel
theorem dX12_lay_43 : decode cX12_lay 43 = .ok (.iconst 2, 1) := by decide +kernel
theorem dX12_lay_44 : decode cX12_lay 44 = .ok (.invokevirtual 86, 3) := by decide +kernel
theorem dX12_lay_47 : decode cX12_lay 47 = .ok (.i2l, 1) := by decide +kernel
theorem dX12_lay_48 : decode cX12_lay 48 = .ok (.invokevirtual 90, 3) := by decide +kernel
theorem dX12_lay_51 : decode cX12_lay 51 = .ok (.goto 24, 3) := by decide +kernel
theorem dX12_lay_54 : decode cX12_lay 54 = .ok (.aload_n 0, 1) := by decide +kernel
theorem dX12_lay_55 : decode cX12_lay 55 = .ok (.iload_n 1, 1) := by decide +kernel
theorem dX12_lay_56 : decode cX12_lay 56 = .ok (.invokevirtual 94, 3) := by decide +kernel
theorem dX12_lay_59 : decode cX12_lay 59 = .ok (.goto 16, 3) := by decide +kernel
theorem dX12_lay_62 : decode cX12_lay 62 = .ok (.aload_n 0, 1) := by decide +kernel
theorem dX12_lay_63 : decode cX12_lay 63 = .ok (.iload_n 1, 1) := by decide +kernel
theorem dX12_lay_64 : decode cX12_lay 64 = .ok (.invokevirtual 97, 3) := by decide +kernel
theorem dX12_lay_67 : decode cX12_lay 67 = .ok (.goto 8, 3) := by decide +kernel
theorem dX12_lay_70 : decode cX12_lay 70 = .ok (.aload_n 0, 1) := by decide +kernel
theorem dX12_lay_71 : decode cX12_lay 71 = .ok (.iload_n 1, 1) := by decide +kernel
theorem dX12_lay_72 : decode cX12_lay 72 = .ok (.invokevirtual 100, 3) := by decide +kernel
theorem dX12_lay_75 : decode cX12_lay 75 = .ok (.return_, 1) := by decide +kernel
theorem dX12_divides_0 : decode cX12_divides 0 = .ok (.lload 4, 2) := by decide +kernel
theorem dX12_divides_2 : decode cX12_divides 2 = .ok (.lconst 0, 1) := by decide +kernel
theorem dX12_divides_3 : decode cX12_divides 3 = .ok (.lcmp, 1) := by decide +kernel
theorem dX12_divides_4 : decode cX12_divides 4 = .ok (.ifCond .ge 8, 3) := by decide +kernel
theorem dX12_divides_7 : decode cX12_divides 7 = .ok (.lload_n 2, 1) := by decide +kernel
theorem dX12_divides_8 : decode cX12_divides 8 = .ok (.lneg, 1) := by decide +kernel
theorem dX12_divides_9 : decode cX12_divides 9 = .ok (.goto 4, 3) := by decide +kernel
theorem dX12_divides_12 : decode cX12_divides 12 = .ok (.lload_n 2, 1) := by decide +kernel
theorem dX12_divides_13 : decode cX12_divides 13 = .ok (.lstore 6, 2) := by decide +kernel
theorem dX12_divides_15 : decode cX12_divides 15 = .ok (.lload 4, 2) := by decide +kernel
theorem dX12_divides_17 : decode cX12_divides 17 = .ok (.lconst 0, 1) := by decide +kernel
theorem dX12_divides_18 : decode cX12_divides 18 = .ok (.lcmp, 1) := by decide +kernel
theorem dX12_divides_19 : decode cX12_divides 19 = .ok (.ifCond .ge 9, 3) := by decide +kernel
theorem dX12_divides_22 : decode cX12_divides 22 = .ok (.lload 4, 2) := by decide +kernel
theorem dX12_divides_24 : decode cX12_divides 24 = .ok (.lneg, 1) := by decide +kernel
theorem dX12_divides_25 : decode cX12_divides 25 = .ok (.goto 5, 3) := by decide +kernel
theorem dX12_divides_28 : decode cX12_divides 28 = .ok (.lload 4, 2) := by decide +kernel
theorem dX12_divides_30 : decode cX12_divides 30 = .ok (.lstore 8, 2) := by decide +kernel
theorem dX12_divides_32 : decode cX12_divides 32 = .ok (.iconst 1, 1) := by decide +kernel
theorem dX12_divides_33 : decode cX12_divides 33 = .ok (.istore 10, 2) := by decide +kernel
theorem dX12_divides_35 : decode cX12_divides 35 = .ok (.aload_n 0, 1) := by decide +kernel
theorem dX12_divides_36 : decode cX12_divides 36 = .ok (.getfield 22, 3) := by decide +kernel
theorem dX12_divides_39 : decode cX12_divides 39 = .ok (.iload_n 1, 1) := by decide +kernel
theorem dX12_divides_40 : decode cX12_divides 40 = .ok (.iconst 0, 1) := by decide +kernel
theorem dX12_divides_41 : decode cX12_divides 41 = .ok (.iastore, 1) := by decide +kernel
theorem dX12_divides_42 : decode cX12_divides 42 = .ok (.iload 10, 2) := by decide +kernel
theorem dX12_divides_44 : decode cX12_divides 44 = .ok (.ifCond .eq 49, 3) := by decide +kernel
theorem dX12_divides_47 : decode cX12_divides 47 = .ok (.lload 8, 2) := by decide +kernel
theorem dX12_divides_49 : decode cX12_divides 49 = .ok (.lconst 0, 1) := by decide +kernel
theorem dX12_divides_50 : decode cX12_divides 50 = .ok (.lcmp, 1) := by decide +kernel
theorem dX12_divides_51 : decode cX12_divides 51 = .ok (.ifCond .eq 42, 3) := by decide +kernel
theorem dX12_divides_54 : decode cX12_divides 54 = .ok (.lload 6, 2) := by decide +kernel
theorem dX12_divides_56 : decode cX12_divides 56 = .ok (.lload 8, 2) := by decide +kernel
theorem dX12_divides_58 : decode cX12_divides 58 = .ok (.invokestatic 103, 3) := by decide +kernel
theorem dX12_divides_61 : decode cX12_divides 61 = .ok (.lstore 11, 2) := by decide +kernel
theorem dX12_divides_63 : decode cX12_divides 63 = .ok (.lload 6, 2) := by decide +kernel
theorem dX12_divides_65 : decode cX12_divides 65 = .ok (.lload 11, 2) := by decide +kernel
theorem dX12_divides_67 : decode cX12_divides 67 = .ok (.lload 8, 2) := by decide +kernel
theorem dX12_divides_69 : decode cX12_divides 69 = .ok (.lmul, 1) := by decide +kernel
theorem dX12_divides_70 : decode cX12_divides 70 = .ok (.lsub, 1) := by decide +kernel
theorem dX12_divides_71 : decode cX12_divides 71 = .ok (.lstore 13, 2) := by decide +kernel
theorem dX12_divides_73 : decode cX12_divides 73 = .ok (.aload_n 0, 1) := by decide +kernel
theorem dX12_divides_74 : decode cX12_divides 74 = .ok (.iload_n 1, 1) := by decide +kernel
theorem dX12_divides_75 : decode cX12_divides 75 = .ok (.lload 11, 2) := by decide +kernel
theorem dX12_divides_77 : decode cX12_divides 77 = .ok (.invokevirtual 109, 3) := by decide +kernel
theorem dX12_divides_80 : decode cX12_divides 80 = .ok (.istore 10, 2) := by decide +kernel
theorem dX12_divides_82 : decode cX12_divides 82 = .ok (.lload 8, 2) := by decide +kernel
theorem dX12_divides_84 : decode cX12_divides 84 = .ok (.lstore 6, 2) := by decide +kernel
theorem dX12_divides_86 : decode cX12_divides 86 = .ok (.lload 13, 2) := by decide +kernel
theorem dX12_divides_88 : decode cX12_divides 88 = .ok (.lstore 8, 2) := by decide +kernel
theorem dX12_divides_90 : decode cX12_divides 90 = .ok (.goto (-48), 3) := by decide +kernel
theorem dX12_divides_93 : decode cX12_divides 93 = .ok (.iload 10, 2) := by decide +kernel
theorem dX12_divides_95 : decode cX12_divides 95 = .ok (.ifCond .eq 10, 3) := by decide +kernel
theorem dX12_divides_98 : decode cX12_divides 98 = .ok (.aload_n 0, 1) := by decide +kernel
theorem dX12_divides_99 : decode cX12_divides 99 = .ok (.getfield 22, 3) := by decide +kernel
theorem dX12_divides_102 : decode cX12_divides 102 = .ok (.iload_n 1, 1) := by decide +kernel
theorem dX12_divides_103 : decode cX12_divides 103 = .ok (.iconst 1, 1) := by decide +kernel
theorem dX12_divides_104 : decode cX12_divides 104 = .ok (.iastore, 1) := by decide +kernel
theorem dX12_divides_105 : decode cX12_divides 105 = .ok (.return_, 1) := by decide +kernel
theorem dX12_rootOf_0 : decode cX12_rootOf 0 = .ok (.lconst 0, 1) := by decide +kernel
theorem dX12_rootOf_1 : decode cX12_rootOf 1 = .ok (.lstore_n 2, 1) := by decide +kernel
theorem dX12_rootOf_2 : decode cX12_rootOf 2 = .ok (.ldc2_w 113, 3) := by decide +kernel
theorem dX12_rootOf_5 : decode cX12_rootOf 5 = .ok (.lstore 4, 2) := by decide +kernel
theorem dX12_rootOf_7 : decode cX12_rootOf 7 = .ok (.lload 4, 2) := by decide +kernel
theorem dX12_rootOf_9 : decode cX12_rootOf 9 = .ok (.lconst 0, 1) := by decide +kernel
theorem dX12_rootOf_10 : decode cX12_rootOf 10 = .ok (.lcmp, 1) := by decide +kernel
theorem dX12_rootOf_11 : decode cX12_rootOf 11 = .ok (.ifCond .le 33, 3) := by decide +kernel
theorem dX12_rootOf_14 : decode cX12_rootOf 14 = .ok (.lload_n 2, 1) := by decide +kernel
theorem dX12_rootOf_15 : decode cX12_rootOf 15 = .ok (.lload 4, 2) := by decide +kernel
theorem dX12_rootOf_17 : decode cX12_rootOf 17 = .ok (.ladd, 1) := by decide +kernel
theorem dX12_rootOf_18 : decode cX12_rootOf 18 = .ok (.lload_n 2, 1) := by decide +kernel
theorem dX12_rootOf_19 : decode cX12_rootOf 19 = .ok (.lload 4, 2) := by decide +kernel
theorem dX12_rootOf_21 : decode cX12_rootOf 21 = .ok (.ladd, 1) := by decide +kernel
theorem dX12_rootOf_22 : decode cX12_rootOf 22 = .ok (.lmul, 1) := by decide +kernel
theorem dX12_rootOf_23 : decode cX12_rootOf 23 = .ok (.lload_n 0, 1) := by decide +kernel
theorem dX12_rootOf_24 : decode cX12_rootOf 24 = .ok (.lcmp, 1) := by decide +kernel
theorem dX12_rootOf_25 : decode cX12_rootOf 25 = .ok (.ifCond .gt 8, 3) := by decide +kernel
theorem dX12_rootOf_28 : decode cX12_rootOf 28 = .ok (.lload_n 2, 1) := by decide +kernel
theorem dX12_rootOf_29 : decode cX12_rootOf 29 = .ok (.lload 4, 2) := by decide +kernel
theorem dX12_rootOf_31 : decode cX12_rootOf 31 = .ok (.ladd, 1) := by decide +kernel
theorem dX12_rootOf_32 : decode cX12_rootOf 32 = .ok (.lstore_n 2, 1) := by decide +kernel
theorem dX12_rootOf_33 : decode cX12_rootOf 33 = .ok (.lload 4, 2) := by decide +kernel
theorem dX12_rootOf_35 : decode cX12_rootOf 35 = .ok (.ldc2_w 115, 3) := by decide +kernel
theorem dX12_rootOf_38 : decode cX12_rootOf 38 = .ok (.ldiv, 1) := by decide +kernel
theorem dX12_rootOf_39 : decode cX12_rootOf 39 = .ok (.lstore 4, 2) := by decide +kernel
theorem dX12_rootOf_41 : decode cX12_rootOf 41 = .ok (.goto (-34), 3) := by decide +kernel
theorem dX12_rootOf_44 : decode cX12_rootOf 44 = .ok (.lload_n 2, 1) := by decide +kernel
theorem dX12_rootOf_45 : decode cX12_rootOf 45 = .ok (.lreturn, 1) := by decide +kernel
theorem dX12_isSquare_0 : decode cX12_isSquare 0 = .ok (.aload_n 0, 1) := by decide +kernel
theorem dX12_isSquare_1 : decode cX12_isSquare 1 = .ok (.iload_n 1, 1) := by decide +kernel
theorem dX12_isSquare_2 : decode cX12_isSquare 2 = .ok (.iconst 2, 1) := by decide +kernel
theorem dX12_isSquare_3 : decode cX12_isSquare 3 = .ok (.invokevirtual 86, 3) := by decide +kernel
theorem dX12_isSquare_6 : decode cX12_isSquare 6 = .ok (.i2l, 1) := by decide +kernel
theorem dX12_isSquare_7 : decode cX12_isSquare 7 = .ok (.lstore_n 2, 1) := by decide +kernel
theorem dX12_isSquare_8 : decode cX12_isSquare 8 = .ok (.lload_n 2, 1) := by decide +kernel
theorem dX12_isSquare_9 : decode cX12_isSquare 9 = .ok (.invokestatic 117, 3) := by decide +kernel
theorem dX12_isSquare_12 : decode cX12_isSquare 12 = .ok (.lload_n 2, 1) := by decide +kernel
theorem dX12_isSquare_13 : decode cX12_isSquare 13 = .ok (.invokestatic 117, 3) := by decide +kernel
theorem dX12_isSquare_16 : decode cX12_isSquare 16 = .ok (.lmul, 1) := by decide +kernel
theorem dX12_isSquare_17 : decode cX12_isSquare 17 = .ok (.lload_n 2, 1) := by decide +kernel
theorem dX12_isSquare_18 : decode cX12_isSquare 18 = .ok (.lcmp, 1) := by decide +kernel
theorem dX12_isSquare_19 : decode cX12_isSquare 19 = .ok (.ifCond .ne 7, 3) := by decide +kernel
theorem dX12_isSquare_22 : decode cX12_isSquare 22 = .ok (.iconst 1, 1) := by decide +kernel
theorem dX12_isSquare_23 : decode cX12_isSquare 23 = .ok (.goto 4, 3) := by decide +kernel
theorem dX12_isSquare_26 : decode cX12_isSquare 26 = .ok (.iconst 0, 1) := by decide +kernel
theorem dX12_isSquare_27 : decode cX12_isSquare 27 = .ok (.ireturn, 1) := by decide +kernel
theorem dX12_layStates_0 : decode cX12_layStates 0 = .ok (.aload_n 0, 1) := by decide +kernel
theorem dX12_layStates_1 : decode cX12_layStates 1 = .ok (.iload_n 1, 1) := by decide +kernel
theorem dX12_layStates_2 : decode cX12_layStates 2 = .ok (.iconst 1, 1) := by decide +kernel
theorem dX12_layStates_3 : decode cX12_layStates 3 = .ok (.invokevirtual 86, 3) := by decide +kernel
theorem dX12_layStates_6 : decode cX12_layStates 6 = .ok (.i2l, 1) := by decide +kernel
theorem dX12_layStates_7 : decode cX12_layStates 7 = .ok (.lstore_n 2, 1) := by decide +kernel
theorem dX12_layStates_8 : decode cX12_layStates 8 = .ok (.aload_n 0, 1) := by decide +kernel
theorem dX12_layStates_9 : decode cX12_layStates 9 = .ok (.iload_n 1, 1) := by decide +kernel
theorem dX12_layStates_10 : decode cX12_layStates 10 = .ok (.iconst 2, 1) := by decide +kernel
theorem dX12_layStates_11 : decode cX12_layStates 11 = .ok (.invokevirtual 86, 3) := by decide +kernel
theorem dX12_layStates_14 : decode cX12_layStates 14 = .ok (.i2l, 1) := by decide +kernel
theorem dX12_layStates_15 : decode cX12_layStates 15 = .ok (.lstore 4, 2) := by decide +kernel
theorem dX12_layStates_17 : decode cX12_layStates 17 = .ok (.aload_n 0, 1) := by decide +kernel
theorem dX12_layStates_18 : decode cX12_layStates 18 = .ok (.iload_n 1, 1) := by decide +kernel
theorem dX12_layStates_19 : decode cX12_layStates 19 = .ok (.iconst 3, 1) := by decide +kernel
theorem dX12_layStates_20 : decode cX12_layStates 20 = .ok (.invokevirtual 86, 3) := by decide +kernel
theorem dX12_layStates_23 : decode cX12_layStates 23 = .ok (.i2l, 1) := by decide +kernel
theorem dX12_layStates_24 : decode cX12_layStates 24 = .ok (.lstore 6, 2) := by decide +kernel
theorem dX12_layStates_26 : decode cX12_layStates 26 = .ok (.lload 4, 2) := by decide +kernel
theorem dX12_layStates_28 : decode cX12_layStates 28 = .ok (.lload_n 2, 1) := by decide +kernel
theorem dX12_layStates_29 : decode cX12_layStates 29 = .ok (.lload_n 2, 1) := by decide +kernel
theorem dX12_layStates_30 : decode cX12_layStates 30 = .ok (.lmul, 1) := by decide +kernel
theorem dX12_layStates_31 : decode cX12_layStates 31 = .ok (.lsub, 1) := by decide +kernel
theorem dX12_layStates_32 : decode cX12_layStates 32 = .ok (.lload 6, 2) := by decide +kernel
theorem dX12_layStates_34 : decode cX12_layStates 34 = .ok (.lrem, 1) := by decide +kernel
theorem dX12_layStates_35 : decode cX12_layStates 35 = .ok (.lconst 0, 1) := by decide +kernel
theorem dX12_layStates_36 : decode cX12_layStates 36 = .ok (.lcmp, 1) := by decide +kernel
theorem dX12_layStates_37 : decode cX12_layStates 37 = .ok (.ifCond .eq 32, 3) := by decide +kernel
theorem dX12_layStates_40 : decode cX12_layStates 40 = .ok (.lload 6, 2) := by decide +kernel
theorem dX12_layStates_42 : decode cX12_layStates 42 = .ok (.invokestatic 121, 3) := by decide +kernel
theorem dX12_layStates_45 : decode cX12_layStates 45 = .ok (.lstore 8, 2) := by decide +kernel
theorem dX12_layStates_47 : decode cX12_layStates 47 = .ok (.lload_n 2, 1) := by decide +kernel
theorem dX12_layStates_48 : decode cX12_layStates 48 = .ok (.lload 8, 2) := by decide +kernel
theorem dX12_layStates_50 : decode cX12_layStates 50 = .ok (.lmul, 1) := by decide +kernel
theorem dX12_layStates_51 : decode cX12_layStates 51 = .ok (.lstore_n 2, 1) := by decide +kernel
theorem dX12_layStates_52 : decode cX12_layStates 52 = .ok (.lload 4, 2) := by decide +kernel
theorem dX12_layStates_54 : decode cX12_layStates 54 = .ok (.lload 8, 2) := by decide +kernel
theorem dX12_layStates_56 : decode cX12_layStates 56 = .ok (.lload 8, 2) := by decide +kernel
theorem dX12_layStates_58 : decode cX12_layStates 58 = .ok (.lmul, 1) := by decide +kernel
theorem dX12_layStates_59 : decode cX12_layStates 59 = .ok (.lmul, 1) := by decide +kernel
theorem dX12_layStates_60 : decode cX12_layStates 60 = .ok (.lstore 4, 2) := by decide +kernel
theorem dX12_layStates_62 : decode cX12_layStates 62 = .ok (.lload 6, 2) := by decide +kernel
theorem dX12_layStates_64 : decode cX12_layStates 64 = .ok (.lload 8, 2) := by decide +kernel
theorem dX12_layStates_66 : decode cX12_layStates 66 = .ok (.lmul, 1) := by decide +kernel
theorem dX12_layStates_67 : decode cX12_layStates 67 = .ok (.lstore 6, 2) := by decide +kernel
theorem dX12_layStates_69 : decode cX12_layStates 69 = .ok (.aload_n 0, 1) := by decide +kernel
theorem dX12_layStates_70 : decode cX12_layStates 70 = .ok (.lload 4, 2) := by decide +kernel
theorem dX12_layStates_72 : decode cX12_layStates 72 = .ok (.invokestatic 117, 3) := by decide +kernel
theorem dX12_layStates_75 : decode cX12_layStates 75 = .ok (.putfield 124, 3) := by decide +kernel
theorem dX12_layStates_78 : decode cX12_layStates 78 = .ok (.iconst 0, 1) := by decide +kernel
theorem dX12_layStates_79 : decode cX12_layStates 79 = .ok (.istore 8, 2) := by decide +kernel
theorem dX12_layStates_81 : decode cX12_layStates 81 = .ok (.iload 8, 2) := by decide +kernel
theorem dX12_layStates_83 : decode cX12_layStates 83 = .ok (.bipush 60, 2) := by decide +kernel
theorem dX12_layStates_85 : decode cX12_layStates 85 = .ok (.if_icmp .ge 57, 3) := by decide +kernel
theorem dX12_layStates_88 : decode cX12_layStates 88 = .ok (.aload_n 0, 1) := by decide +kernel
theorem dX12_layStates_89 : decode cX12_layStates 89 = .ok (.getfield 34, 3) := by decide +kernel
theorem dX12_layStates_92 : decode cX12_layStates 92 = .ok (.iload 8, 2) := by decide +kernel
theorem dX12_layStates_94 : decode cX12_layStates 94 = .ok (.lload_n 2, 1) := by decide +kernel
theorem dX12_layStates_95 : decode cX12_layStates 95 = .ok (.lastore, 1) := by decide +kernel
theorem dX12_layStates_96 : decode cX12_layStates 96 = .ok (.aload_n 0, 1) := by decide +kernel
theorem dX12_layStates_97 : decode cX12_layStates 97 = .ok (.getfield 38, 3) := by decide +kernel
theorem dX12_layStates_100 : decode cX12_layStates 100 = .ok (.iload 8, 2) := by decide +kernel
theorem dX12_layStates_102 : decode cX12_layStates 102 = .ok (.lload 6, 2) := by decide +kernel
theorem dX12_layStates_104 : decode cX12_layStates 104 = .ok (.lastore, 1) := by decide +kernel
theorem dX12_layStates_105 : decode cX12_layStates 105 = .ok (.lload_n 2, 1) := by decide +kernel
theorem dX12_layStates_106 : decode cX12_layStates 106 = .ok (.aload_n 0, 1) := by decide +kernel
theorem dX12_layStates_107 : decode cX12_layStates 107 = .ok (.getfield 124, 3) := by decide +kernel
theorem dX12_layStates_110 : decode cX12_layStates 110 = .ok (.lload 6, 2) := by decide +kernel
theorem dX12_layStates_112 : decode cX12_layStates 112 = .ok (.invokestatic 128, 3) := by decide +kernel
theorem dX12_layStates_115 : decode cX12_layStates 115 = .ok (.lstore 9, 2) := by decide +kernel
theorem dX12_layStates_117 : decode cX12_layStates 117 = .ok (.lload 9, 2) := by decide +kernel
theorem dX12_layStates_119 : decode cX12_layStates 119 = .ok (.lload 6, 2) := by decide +kernel
theorem dX12_layStates_121 : decode cX12_layStates 121 = .ok (.lmul, 1) := by decide +kernel
theorem dX12_layStates_122 : decode cX12_layStates 122 = .ok (.lload_n 2, 1) := by decide +kernel
theorem dX12_layStates_123 : decode cX12_layStates 123 = .ok (.lsub, 1) := by decide +kernel
theorem dX12_layStates_124 : decode cX12_layStates 124 = .ok (.lstore_n 2, 1) := by decide +kernel
theorem dX12_layStates_125 : decode cX12_layStates 125 = .ok (.lload 4, 2) := by decide +kernel
theorem dX12_layStates_127 : decode cX12_layStates 127 = .ok (.lload_n 2, 1) := by decide +kernel
theorem dX12_layStates_128 : decode cX12_layStates 128 = .ok (.lload_n 2, 1) := by decide +kernel
theorem dX12_layStates_129 : decode cX12_layStates 129 = .ok (.lmul, 1) := by decide +kernel
theorem dX12_layStates_130 : decode cX12_layStates 130 = .ok (.lsub, 1) := by decide +kernel
theorem dX12_layStates_131 : decode cX12_layStates 131 = .ok (.lload 6, 2) := by decide +kernel
theorem dX12_layStates_133 : decode cX12_layStates 133 = .ok (.ldiv, 1) := by decide +kernel
theorem dX12_layStates_134 : decode cX12_layStates 134 = .ok (.lstore 6, 2) := by decide +kernel
theorem dX12_layStates_136 : decode cX12_layStates 136 = .ok (.iinc 8 1, 3) := by decide +kernel
theorem dX12_layStates_139 : decode cX12_layStates 139 = .ok (.goto (-58), 3) := by decide +kernel
theorem dX12_layStates_142 : decode cX12_layStates 142 = .ok (.return_, 1) := by decide +kernel
theorem dX12_floorOf_0 : decode cX12_floorOf 0 = .ok (.lload 4, 2) := by decide +kernel
theorem dX12_floorOf_2 : decode cX12_floorOf 2 = .ok (.lconst 0, 1) := by decide +kernel
theorem dX12_floorOf_3 : decode cX12_floorOf 3 = .ok (.lcmp, 1) := by decide +kernel
theorem dX12_floorOf_4 : decode cX12_floorOf 4 = .ok (.ifCond .le 14, 3) := by decide +kernel
theorem dX12_floorOf_7 : decode cX12_floorOf 7 = .ok (.lload_n 0, 1) := by decide +kernel
theorem dX12_floorOf_8 : decode cX12_floorOf 8 = .ok (.lload_n 2, 1) := by decide +kernel
theorem dX12_floorOf_9 : decode cX12_floorOf 9 = .ok (.ladd, 1) := by decide +kernel
theorem dX12_floorOf_10 : decode cX12_floorOf 10 = .ok (.lload 4, 2) := by decide +kernel
theorem dX12_floorOf_12 : decode cX12_floorOf 12 = .ok (.invokestatic 103, 3) := by decide +kernel
theorem dX12_floorOf_15 : decode cX12_floorOf 15 = .ok (.goto 13, 3) := by decide +kernel
theorem dX12_floorOf_18 : decode cX12_floorOf 18 = .ok (.lload_n 0, 1) := by decide +kernel
theorem dX12_floorOf_19 : decode cX12_floorOf 19 = .ok (.lload_n 2, 1) := by decide +kernel
theorem dX12_floorOf_20 : decode cX12_floorOf 20 = .ok (.ladd, 1) := by decide +kernel
theorem dX12_floorOf_21 : decode cX12_floorOf 21 = .ok (.lconst 1, 1) := by decide +kernel
theorem dX12_floorOf_22 : decode cX12_floorOf 22 = .ok (.ladd, 1) := by decide +kernel
theorem dX12_floorOf_23 : decode cX12_floorOf 23 = .ok (.lload 4, 2) := by decide +kernel
theorem dX12_floorOf_25 : decode cX12_floorOf 25 = .ok (.invokestatic 103, 3) := by decide +kernel
theorem dX12_floorOf_28 : decode cX12_floorOf 28 = .ok (.lreturn, 1) := by decide +kernel
theorem dX12_layRoot_0 : decode cX12_layRoot 0 = .ok (.aload_n 0, 1) := by decide +kernel
theorem dX12_layRoot_1 : decode cX12_layRoot 1 = .ok (.iload_n 1, 1) := by decide +kernel
theorem dX12_layRoot_2 : decode cX12_layRoot 2 = .ok (.invokevirtual 132, 3) := by decide +kernel
theorem dX12_layRoot_5 : decode cX12_layRoot 5 = .ok (.ifCond .eq 34, 3) := by decide +kernel
theorem dX12_layRoot_8 : decode cX12_layRoot 8 = .ok (.aload_n 0, 1) := by decide +kernel
theorem dX12_layRoot_9 : decode cX12_layRoot 9 = .ok (.iload_n 1, 1) := by decide +kernel
theorem dX12_layRoot_10 : decode cX12_layRoot 10 = .ok (.aload_n 0, 1) := by decide +kernel
theorem dX12_layRoot_11 : decode cX12_layRoot 11 = .ok (.iload_n 1, 1) := by decide +kernel
theorem dX12_layRoot_12 : decode cX12_layRoot 12 = .ok (.iconst 1, 1) := by decide +kernel
theorem dX12_layRoot_13 : decode cX12_layRoot 13 = .ok (.invokevirtual 86, 3) := by decide +kernel
theorem dX12_layRoot_16 : decode cX12_layRoot 16 = .ok (.i2l, 1) := by decide +kernel
theorem dX12_layRoot_17 : decode cX12_layRoot 17 = .ok (.aload_n 0, 1) := by decide +kernel
theorem dX12_layRoot_18 : decode cX12_layRoot 18 = .ok (.iload_n 1, 1) := by decide +kernel
theorem dX12_layRoot_19 : decode cX12_layRoot 19 = .ok (.iconst 2, 1) := by decide +kernel
theorem dX12_layRoot_20 : decode cX12_layRoot 20 = .ok (.invokevirtual 86, 3) := by decide +kernel
theorem dX12_layRoot_23 : decode cX12_layRoot 23 = .ok (.i2l, 1) := by decide +kernel
theorem dX12_layRoot_24 : decode cX12_layRoot 24 = .ok (.invokestatic 117, 3) := by decide +kernel
theorem dX12_layRoot_27 : decode cX12_layRoot 27 = .ok (.ladd, 1) := by decide +kernel
theorem dX12_layRoot_28 : decode cX12_layRoot 28 = .ok (.aload_n 0, 1) := by decide +kernel
theorem dX12_layRoot_29 : decode cX12_layRoot 29 = .ok (.iload_n 1, 1) := by decide +kernel
theorem dX12_layRoot_30 : decode cX12_layRoot 30 = .ok (.iconst 3, 1) := by decide +kernel
theorem dX12_layRoot_31 : decode cX12_layRoot 31 = .ok (.invokevirtual 86, 3) := by decide +kernel
theorem dX12_layRoot_34 : decode cX12_layRoot 34 = .ok (.i2l, 1) := by decide +kernel
theorem dX12_layRoot_35 : decode cX12_layRoot 35 = .ok (.invokevirtual 90, 3) := by decide +kernel
theorem dX12_layRoot_38 : decode cX12_layRoot 38 = .ok (.return_, 1) := by decide +kernel
theorem dX12_layRoot_39 : decode cX12_layRoot 39 = .ok (.aload_n 0, 1) := by decide +kernel
theorem dX12_layRoot_40 : decode cX12_layRoot 40 = .ok (.iload_n 1, 1) := by decide +kernel
theorem dX12_layRoot_41 : decode cX12_layRoot 41 = .ok (.invokevirtual 136, 3) := by decide +kernel
theorem dX12_layRoot_44 : decode cX12_layRoot 44 = .ok (.iconst 1, 1) := by decide +kernel
theorem dX12_layRoot_45 : decode cX12_layRoot 45 = .ok (.istore_n 2, 1) := by decide +kernel
theorem dX12_layRoot_46 : decode cX12_layRoot 46 = .ok (.iconst 0, 1) := by decide +kernel
theorem dX12_layRoot_47 : decode cX12_layRoot 47 = .ok (.istore_n 3, 1) := by decide +kernel
theorem dX12_layRoot_48 : decode cX12_layRoot 48 = .ok (.iload_n 2, 1) := by decide +kernel
theorem dX12_layRoot_49 : decode cX12_layRoot 49 = .ok (.ifCond .eq 34, 3) := by decide +kernel
theorem dX12_layRoot_52 : decode cX12_layRoot 52 = .ok (.aload_n 0, 1) := by decide +kernel
theorem dX12_layRoot_53 : decode cX12_layRoot 53 = .ok (.iload_n 1, 1) := by decide +kernel
theorem dX12_layRoot_54 : decode cX12_layRoot 54 = .ok (.aload_n 0, 1) := by decide +kernel
theorem dX12_layRoot_55 : decode cX12_layRoot 55 = .ok (.getfield 34, 3) := by decide +kernel
theorem dX12_layRoot_58 : decode cX12_layRoot 58 = .ok (.iload_n 3, 1) := by decide +kernel
theorem dX12_layRoot_59 : decode cX12_layRoot 59 = .ok (.laload, 1) := by decide +kernel
theorem dX12_layRoot_60 : decode cX12_layRoot 60 = .ok (.aload_n 0, 1) := by decide +kernel
theorem dX12_layRoot_61 : decode cX12_layRoot 61 = .ok (.getfield 124, 3) := by decide +kernel
theorem dX12_layRoot_64 : decode cX12_layRoot 64 = .ok (.aload_n 0, 1) := by decide +kernel
theorem dX12_layRoot_65 : decode cX12_layRoot 65 = .ok (.getfield 38, 3) := by decide +kernel
theorem dX12_layRoot_68 : decode cX12_layRoot 68 = .ok (.iload_n 3, 1) := by decide +kernel
theorem dX12_layRoot_69 : decode cX12_layRoot 69 = .ok (.laload, 1) := by decide +kernel
theorem dX12_layRoot_70 : decode cX12_layRoot 70 = .ok (.invokestatic 128, 3) := by decide +kernel
theorem dX12_layRoot_73 : decode cX12_layRoot 73 = .ok (.invokevirtual 109, 3) := by decide +kernel
theorem dX12_layRoot_76 : decode cX12_layRoot 76 = .ok (.istore_n 2, 1) := by decide +kernel
theorem dX12_layRoot_77 : decode cX12_layRoot 77 = .ok (.iinc 3 1, 3) := by decide +kernel
theorem dX12_layRoot_80 : decode cX12_layRoot 80 = .ok (.goto (-32), 3) := by decide +kernel
theorem dX12_layRoot_83 : decode cX12_layRoot 83 = .ok (.aload_n 0, 1) := by decide +kernel
theorem dX12_layRoot_84 : decode cX12_layRoot 84 = .ok (.getfield 22, 3) := by decide +kernel
theorem dX12_layRoot_87 : decode cX12_layRoot 87 = .ok (.iload_n 1, 1) := by decide +kernel
theorem dX12_layRoot_88 : decode cX12_layRoot 88 = .ok (.iconst 0, 1) := by decide +kernel
theorem dX12_layRoot_89 : decode cX12_layRoot 89 = .ok (.iastore, 1) := by decide +kernel
theorem dX12_layRoot_90 : decode cX12_layRoot 90 = .ok (.return_, 1) := by decide +kernel
theorem dX12_layTold_0 : decode cX12_layTold 0 = .ok (.aload_n 0, 1) := by decide +kernel
theorem dX12_layTold_1 : decode cX12_layTold 1 = .ok (.iload_n 1, 1) := by decide +kernel
theorem dX12_layTold_2 : decode cX12_layTold 2 = .ok (.bipush 7, 2) := by decide +kernel
theorem dX12_layTold_4 : decode cX12_layTold 4 = .ok (.invokevirtual 86, 3) := by decide +kernel
theorem dX12_layTold_7 : decode cX12_layTold 7 = .ok (.istore_n 2, 1) := by decide +kernel
theorem dX12_layTold_8 : decode cX12_layTold 8 = .ok (.aload_n 0, 1) := by decide +kernel
theorem dX12_layTold_9 : decode cX12_layTold 9 = .ok (.iload_n 1, 1) := by decide +kernel
theorem dX12_layTold_10 : decode cX12_layTold 10 = .ok (.bipush 8, 2) := by decide +kernel
theorem dX12_layTold_12 : decode cX12_layTold 12 = .ok (.invokevirtual 86, 3) := by decide +kernel
theorem dX12_layTold_15 : decode cX12_layTold 15 = .ok (.istore_n 3, 1) := by decide +kernel
theorem dX12_layTold_16 : decode cX12_layTold 16 = .ok (.iconst 1, 1) := by decide +kernel
theorem dX12_layTold_17 : decode cX12_layTold 17 = .ok (.istore 4, 2) := by decide +kernel
theorem dX12_layTold_19 : decode cX12_layTold 19 = .ok (.iconst 0, 1) := by decide +kernel
theorem dX12_layTold_20 : decode cX12_layTold 20 = .ok (.istore 5, 2) := by decide +kernel
theorem dX12_layTold_22 : decode cX12_layTold 22 = .ok (.iload 4, 2) := by decide +kernel
theorem dX12_layTold_24 : decode cX12_layTold 24 = .ok (.ifCond .eq 33, 3) := by decide +kernel
theorem dX12_layTold_27 : decode cX12_layTold 27 = .ok (.iload 5, 2) := by decide +kernel
theorem dX12_layTold_29 : decode cX12_layTold 29 = .ok (.iload_n 2, 1) := by decide +kernel
theorem dX12_layTold_30 : decode cX12_layTold 30 = .ok (.if_icmp .ge 27, 3) := by decide +kernel
theorem dX12_layTold_33 : decode cX12_layTold 33 = .ok (.aload_n 0, 1) := by decide +kernel
theorem dX12_layTold_34 : decode cX12_layTold 34 = .ok (.iload_n 1, 1) := by decide +kernel
theorem dX12_layTold_35 : decode cX12_layTold 35 = .ok (.aload_n 0, 1) := by decide +kernel
theorem dX12_layTold_36 : decode cX12_layTold 36 = .ok (.iload_n 1, 1) := by decide +kernel
theorem dX12_layTold_37 : decode cX12_layTold 37 = .ok (.bipush 9, 2) := by decide +kernel
theorem dX12_layTold_39 : decode cX12_layTold 39 = .ok (.iload 5, 2) := by decide +kernel
theorem dX12_layTold_41 : decode cX12_layTold 41 = .ok (.iadd, 1) := by decide +kernel
theorem dX12_layTold_42 : decode cX12_layTold 42 = .ok (.invokevirtual 86, 3) := by decide +kernel
theorem dX12_layTold_45 : decode cX12_layTold 45 = .ok (.i2l, 1) := by decide +kernel
theorem dX12_layTold_46 : decode cX12_layTold 46 = .ok (.invokevirtual 109, 3) := by decide +kernel
theorem dX12_layTold_49 : decode cX12_layTold 49 = .ok (.istore 4, 2) := by decide +kernel
theorem dX12_layTold_51 : decode cX12_layTold 51 = .ok (.iinc 5 1, 3) := by decide +kernel
theorem dX12_layTold_54 : decode cX12_layTold 54 = .ok (.goto (-32), 3) := by decide +kernel
theorem dX12_layTold_57 : decode cX12_layTold 57 = .ok (.iconst 0, 1) := by decide +kernel
theorem dX12_layTold_58 : decode cX12_layTold 58 = .ok (.istore 5, 2) := by decide +kernel
theorem dX12_layTold_60 : decode cX12_layTold 60 = .ok (.iload 4, 2) := by decide +kernel
theorem dX12_layTold_62 : decode cX12_layTold 62 = .ok (.ifCond .eq 38, 3) := by decide +kernel
theorem dX12_layTold_65 : decode cX12_layTold 65 = .ok (.iload_n 3, 1) := by decide +kernel
theorem dX12_layTold_66 : decode cX12_layTold 66 = .ok (.ifCond .le 34, 3) := by decide +kernel
theorem dX12_layTold_69 : decode cX12_layTold 69 = .ok (.aload_n 0, 1) := by decide +kernel
theorem dX12_layTold_70 : decode cX12_layTold 70 = .ok (.iload_n 1, 1) := by decide +kernel
theorem dX12_layTold_71 : decode cX12_layTold 71 = .ok (.aload_n 0, 1) := by decide +kernel
theorem dX12_layTold_72 : decode cX12_layTold 72 = .ok (.iload_n 1, 1) := by decide +kernel
theorem dX12_layTold_73 : decode cX12_layTold 73 = .ok (.bipush 9, 2) := by decide +kernel
theorem dX12_layTold_75 : decode cX12_layTold 75 = .ok (.iload_n 2, 1) := by decide +kernel
theorem dX12_layTold_76 : decode cX12_layTold 76 = .ok (.iadd, 1) := by decide +kernel
theorem dX12_layTold_77 : decode cX12_layTold 77 = .ok (.iload 5, 2) := by decide +kernel
theorem dX12_layTold_79 : decode cX12_layTold 79 = .ok (.iadd, 1) := by decide +kernel
theorem dX12_layTold_80 : decode cX12_layTold 80 = .ok (.invokevirtual 86, 3) := by decide +kernel
theorem dX12_layTold_83 : decode cX12_layTold 83 = .ok (.i2l, 1) := by decide +kernel
theorem dX12_layTold_84 : decode cX12_layTold 84 = .ok (.invokevirtual 109, 3) := by decide +kernel
theorem dX12_layTold_87 : decode cX12_layTold 87 = .ok (.istore 4, 2) := by decide +kernel
theorem dX12_layTold_89 : decode cX12_layTold 89 = .ok (.iload 5, 2) := by decide +kernel
theorem dX12_layTold_91 : decode cX12_layTold 91 = .ok (.iconst 1, 1) := by decide +kernel
theorem dX12_layTold_92 : decode cX12_layTold 92 = .ok (.iadd, 1) := by decide +kernel
theorem dX12_layTold_93 : decode cX12_layTold 93 = .ok (.iload_n 3, 1) := by decide +kernel
theorem dX12_layTold_94 : decode cX12_layTold 94 = .ok (.irem, 1) := by decide +kernel
theorem dX12_layTold_95 : decode cX12_layTold 95 = .ok (.istore 5, 2) := by decide +kernel
theorem dX12_layTold_97 : decode cX12_layTold 97 = .ok (.goto (-37), 3) := by decide +kernel
theorem dX12_layTold_100 : decode cX12_layTold 100 = .ok (.aload_n 0, 1) := by decide +kernel
theorem dX12_layTold_101 : decode cX12_layTold 101 = .ok (.getfield 22, 3) := by decide +kernel
theorem dX12_layTold_104 : decode cX12_layTold 104 = .ok (.iload_n 1, 1) := by decide +kernel
theorem dX12_layTold_105 : decode cX12_layTold 105 = .ok (.iload 4, 2) := by decide +kernel
theorem dX12_layTold_107 : decode cX12_layTold 107 = .ok (.ifCond .eq 7, 3) := by decide +kernel
theorem dX12_layTold_110 : decode cX12_layTold 110 = .ok (.iconst 1, 1) := by decide +kernel
theorem dX12_layTold_111 : decode cX12_layTold 111 = .ok (.goto 4, 3) := by decide +kernel
theorem dX12_layTold_114 : decode cX12_layTold 114 = .ok (.iconst 0, 1) := by decide +kernel
theorem dX12_layTold_115 : decode cX12_layTold 115 = .ok (.iastore, 1) := by decide +kernel
theorem dX12_layTold_116 : decode cX12_layTold 116 = .ok (.return_, 1) := by decide +kernel
theorem dX12_timesAnd_0 : decode cX12_timesAnd 0 = .ok (.lload_n 3, 1) := by decide +kernel
theorem dX12_timesAnd_1 : decode cX12_timesAnd 1 = .ok (.lconst 0, 1) := by decide +kernel
theorem dX12_timesAnd_2 : decode cX12_timesAnd 2 = .ok (.lcmp, 1) := by decide +kernel
theorem dX12_timesAnd_3 : decode cX12_timesAnd 3 = .ok (.ifCond .eq 26, 3) := by decide +kernel
theorem dX12_timesAnd_6 : decode cX12_timesAnd 6 = .ok (.lload_n 1, 1) := by decide +kernel
theorem dX12_timesAnd_7 : decode cX12_timesAnd 7 = .ok (.invokestatic 121, 3) := by decide +kernel
theorem dX12_timesAnd_10 : decode cX12_timesAnd 10 = .ok (.ldc2_w 139, 3) := by decide +kernel
theorem dX12_timesAnd_13 : decode cX12_timesAnd 13 = .ok (.lload_n 3, 1) := by decide +kernel
theorem dX12_timesAnd_14 : decode cX12_timesAnd 14 = .ok (.invokestatic 121, 3) := by decide +kernel
theorem dX12_timesAnd_17 : decode cX12_timesAnd 17 = .ok (.ldiv, 1) := by decide +kernel
theorem dX12_timesAnd_18 : decode cX12_timesAnd 18 = .ok (.lcmp, 1) := by decide +kernel
theorem dX12_timesAnd_19 : decode cX12_timesAnd 19 = .ok (.ifCond .le 10, 3) := by decide +kernel
theorem dX12_timesAnd_22 : decode cX12_timesAnd 22 = .ok (.aload_n 0, 1) := by decide +kernel
theorem dX12_timesAnd_23 : decode cX12_timesAnd 23 = .ok (.iconst 1, 1) := by decide +kernel
theorem dX12_timesAnd_24 : decode cX12_timesAnd 24 = .ok (.putfield 141, 3) := by decide +kernel
theorem dX12_timesAnd_27 : decode cX12_timesAnd 27 = .ok (.lconst 0, 1) := by decide +kernel
theorem dX12_timesAnd_28 : decode cX12_timesAnd 28 = .ok (.lreturn, 1) := by decide +kernel
theorem dX12_timesAnd_29 : decode cX12_timesAnd 29 = .ok (.lload_n 1, 1) := by decide +kernel
theorem dX12_timesAnd_30 : decode cX12_timesAnd 30 = .ok (.lload_n 3, 1) := by decide +kernel
theorem dX12_timesAnd_31 : decode cX12_timesAnd 31 = .ok (.lmul, 1) := by decide +kernel
theorem dX12_timesAnd_32 : decode cX12_timesAnd 32 = .ok (.lload 5, 2) := by decide +kernel
theorem dX12_timesAnd_34 : decode cX12_timesAnd 34 = .ok (.ladd, 1) := by decide +kernel
theorem dX12_timesAnd_35 : decode cX12_timesAnd 35 = .ok (.lstore 7, 2) := by decide +kernel
theorem dX12_timesAnd_37 : decode cX12_timesAnd 37 = .ok (.aload_n 0, 1) := by decide +kernel
theorem dX12_timesAnd_38 : decode cX12_timesAnd 38 = .ok (.aload_n 0, 1) := by decide +kernel
theorem dX12_timesAnd_39 : decode cX12_timesAnd 39 = .ok (.getfield 141, 3) := by decide +kernel
theorem dX12_timesAnd_42 : decode cX12_timesAnd 42 = .ok (.ifCond .ne 21, 3) := by decide +kernel
theorem dX12_timesAnd_45 : decode cX12_timesAnd 45 = .ok (.lload 7, 2) := by decide +kernel
theorem dX12_timesAnd_47 : decode cX12_timesAnd 47 = .ok (.ldc2_w 145, 3) := by decide +kernel
theorem dX12_timesAnd_50 : decode cX12_timesAnd 50 = .ok (.lcmp, 1) := by decide +kernel
theorem dX12_timesAnd_51 : decode cX12_timesAnd 51 = .ok (.ifCond .gt 12, 3) := by decide +kernel
theorem dX12_timesAnd_54 : decode cX12_timesAnd 54 = .ok (.lload 7, 2) := by decide +kernel
theorem dX12_timesAnd_56 : decode cX12_timesAnd 56 = .ok (.ldc2_w 147, 3) := by decide +kernel
theorem dX12_timesAnd_59 : decode cX12_timesAnd 59 = .ok (.lcmp, 1) := by decide +kernel
theorem dX12_timesAnd_60 : decode cX12_timesAnd 60 = .ok (.ifCond .ge 7, 3) := by decide +kernel
theorem dX12_timesAnd_63 : decode cX12_timesAnd 63 = .ok (.iconst 1, 1) := by decide +kernel
theorem dX12_timesAnd_64 : decode cX12_timesAnd 64 = .ok (.goto 4, 3) := by decide +kernel
theorem dX12_timesAnd_67 : decode cX12_timesAnd 67 = .ok (.iconst 0, 1) := by decide +kernel
theorem dX12_timesAnd_68 : decode cX12_timesAnd 68 = .ok (.putfield 141, 3) := by decide +kernel
theorem dX12_timesAnd_71 : decode cX12_timesAnd 71 = .ok (.lload 7, 2) := by decide +kernel
theorem dX12_timesAnd_73 : decode cX12_timesAnd 73 = .ok (.lreturn, 1) := by decide +kernel
theorem dX12_begins_0 : decode cX12_begins 0 = .ok (.aload_n 0, 1) := by decide +kernel
theorem dX12_begins_1 : decode cX12_begins 1 = .ok (.iload_n 1, 1) := by decide +kernel
theorem dX12_begins_2 : decode cX12_begins 2 = .ok (.putfield 149, 3) := by decide +kernel
theorem dX12_begins_5 : decode cX12_begins 5 = .ok (.aload_n 0, 1) := by decide +kernel
theorem dX12_begins_6 : decode cX12_begins 6 = .ok (.iload_n 2, 1) := by decide +kernel
theorem dX12_begins_7 : decode cX12_begins 7 = .ok (.putfield 152, 3) := by decide +kernel
theorem dX12_begins_10 : decode cX12_begins 10 = .ok (.aload_n 0, 1) := by decide +kernel
theorem dX12_begins_11 : decode cX12_begins 11 = .ok (.iload_n 3, 1) := by decide +kernel
theorem dX12_begins_12 : decode cX12_begins 12 = .ok (.putfield 155, 3) := by decide +kernel
theorem dX12_begins_15 : decode cX12_begins 15 = .ok (.aload_n 0, 1) := by decide +kernel
theorem dX12_begins_16 : decode cX12_begins 16 = .ok (.iconst 0, 1) := by decide +kernel
theorem dX12_begins_17 : decode cX12_begins 17 = .ok (.putfield 158, 3) := by decide +kernel
theorem dX12_begins_20 : decode cX12_begins 20 = .ok (.aload_n 0, 1) := by decide +kernel
theorem dX12_begins_21 : decode cX12_begins 21 = .ok (.iload_n 3, 1) := by decide +kernel
theorem dX12_begins_22 : decode cX12_begins 22 = .ok (.ifCond .ne 7, 3) := by decide +kernel
theorem dX12_begins_25 : decode cX12_begins 25 = .ok (.iconst 1, 1) := by decide +kernel
theorem dX12_begins_26 : decode cX12_begins 26 = .ok (.goto 4, 3) := by decide +kernel
theorem dX12_begins_29 : decode cX12_begins 29 = .ok (.iconst 0, 1) := by decide +kernel
theorem dX12_begins_30 : decode cX12_begins 30 = .ok (.putfield 161, 3) := by decide +kernel
theorem dX12_begins_33 : decode cX12_begins 33 = .ok (.aload_n 0, 1) := by decide +kernel
theorem dX12_begins_34 : decode cX12_begins 34 = .ok (.iconst 0, 1) := by decide +kernel
theorem dX12_begins_35 : decode cX12_begins 35 = .ok (.putfield 164, 3) := by decide +kernel
theorem dX12_begins_38 : decode cX12_begins 38 = .ok (.aload_n 0, 1) := by decide +kernel
theorem dX12_begins_39 : decode cX12_begins 39 = .ok (.iconst 0, 1) := by decide +kernel
theorem dX12_begins_40 : decode cX12_begins 40 = .ok (.putfield 167, 3) := by decide +kernel
theorem dX12_begins_43 : decode cX12_begins 43 = .ok (.aload_n 0, 1) := by decide +kernel
theorem dX12_begins_44 : decode cX12_begins 44 = .ok (.iconst 0, 1) := by decide +kernel
theorem dX12_begins_45 : decode cX12_begins 45 = .ok (.putfield 170, 3) := by decide +kernel
theorem dX12_begins_48 : decode cX12_begins 48 = .ok (.aload_n 0, 1) := by decide +kernel
theorem dX12_begins_49 : decode cX12_begins 49 = .ok (.iconst 0, 1) := by decide +kernel
theorem dX12_begins_50 : decode cX12_begins 50 = .ok (.putfield 173, 3) := by decide +kernel
theorem dX12_begins_53 : decode cX12_begins 53 = .ok (.aload_n 0, 1) := by decide +kernel
theorem dX12_begins_54 : decode cX12_begins 54 = .ok (.iconst 0, 1) := by decide +kernel
theorem dX12_begins_55 : decode cX12_begins 55 = .ok (.putfield 141, 3) := by decide +kernel
theorem dX12_begins_58 : decode cX12_begins 58 = .ok (.return_, 1) := by decide +kernel
theorem dX12_numbers_0 : decode cX12_numbers 0 = .ok (.aload_n 0, 1) := by decide +kernel
theorem dX12_numbers_1 : decode cX12_numbers 1 = .ok (.getfield 41, 3) := by decide +kernel
theorem dX12_numbers_4 : decode cX12_numbers 4 = .ok (.iconst 0, 1) := by decide +kernel
theorem dX12_numbers_5 : decode cX12_numbers 5 = .ok (.iload_n 1, 1) := by decide +kernel
theorem dX12_numbers_6 : decode cX12_numbers 6 = .ok (.i2l, 1) := by decide +kernel
theorem dX12_numbers_7 : decode cX12_numbers 7 = .ok (.lastore, 1) := by decide +kernel
theorem dX12_numbers_8 : decode cX12_numbers 8 = .ok (.aload_n 0, 1) := by decide +kernel
theorem dX12_numbers_9 : decode cX12_numbers 9 = .ok (.getfield 41, 3) := by decide +kernel
theorem dX12_numbers_12 : decode cX12_numbers 12 = .ok (.iconst 1, 1) := by decide +kernel
theorem dX12_numbers_13 : decode cX12_numbers 13 = .ok (.iload_n 2, 1) := by decide +kernel
theorem dX12_numbers_14 : decode cX12_numbers 14 = .ok (.i2l, 1) := by decide +kernel
theorem dX12_numbers_15 : decode cX12_numbers 15 = .ok (.lastore, 1) := by decide +kernel
theorem dX12_numbers_16 : decode cX12_numbers 16 = .ok (.aload_n 0, 1) := by decide +kernel
theorem dX12_numbers_17 : decode cX12_numbers 17 = .ok (.getfield 41, 3) := by decide +kernel
theorem dX12_numbers_20 : decode cX12_numbers 20 = .ok (.iconst 2, 1) := by decide +kernel
theorem dX12_numbers_21 : decode cX12_numbers 21 = .ok (.iload_n 3, 1) := by decide +kernel
theorem dX12_numbers_22 : decode cX12_numbers 22 = .ok (.i2l, 1) := by decide +kernel
theorem dX12_numbers_23 : decode cX12_numbers 23 = .ok (.lastore, 1) := by decide +kernel
theorem dX12_numbers_24 : decode cX12_numbers 24 = .ok (.aload_n 0, 1) := by decide +kernel
theorem dX12_numbers_25 : decode cX12_numbers 25 = .ok (.getfield 41, 3) := by decide +kernel
theorem dX12_numbers_28 : decode cX12_numbers 28 = .ok (.iconst 3, 1) := by decide +kernel
theorem dX12_numbers_29 : decode cX12_numbers 29 = .ok (.iload 4, 2) := by decide +kernel
theorem dX12_numbers_31 : decode cX12_numbers 31 = .ok (.i2l, 1) := by decide +kernel
theorem dX12_numbers_32 : decode cX12_numbers 32 = .ok (.lastore, 1) := by decide +kernel
theorem dX12_numbers_33 : decode cX12_numbers 33 = .ok (.aload_n 0, 1) := by decide +kernel
theorem dX12_numbers_34 : decode cX12_numbers 34 = .ok (.getfield 41, 3) := by decide +kernel
theorem dX12_numbers_37 : decode cX12_numbers 37 = .ok (.iconst 4, 1) := by decide +kernel
theorem dX12_numbers_38 : decode cX12_numbers 38 = .ok (.iload 5, 2) := by decide +kernel
theorem dX12_numbers_40 : decode cX12_numbers 40 = .ok (.i2l, 1) := by decide +kernel
theorem dX12_numbers_41 : decode cX12_numbers 41 = .ok (.lastore, 1) := by decide +kernel
theorem dX12_numbers_42 : decode cX12_numbers 42 = .ok (.aload_n 0, 1) := by decide +kernel
theorem dX12_numbers_43 : decode cX12_numbers 43 = .ok (.getfield 41, 3) := by decide +kernel
theorem dX12_numbers_46 : decode cX12_numbers 46 = .ok (.iconst 5, 1) := by decide +kernel
theorem dX12_numbers_47 : decode cX12_numbers 47 = .ok (.iload 6, 2) := by decide +kernel
theorem dX12_numbers_49 : decode cX12_numbers 49 = .ok (.i2l, 1) := by decide +kernel
theorem dX12_numbers_50 : decode cX12_numbers 50 = .ok (.lastore, 1) := by decide +kernel
theorem dX12_numbers_51 : decode cX12_numbers 51 = .ok (.aload_n 0, 1) := by decide +kernel
theorem dX12_numbers_52 : decode cX12_numbers 52 = .ok (.getfield 41, 3) := by decide +kernel
theorem dX12_numbers_55 : decode cX12_numbers 55 = .ok (.bipush 6, 2) := by decide +kernel
theorem dX12_numbers_57 : decode cX12_numbers 57 = .ok (.iload 7, 2) := by decide +kernel
theorem dX12_numbers_59 : decode cX12_numbers 59 = .ok (.i2l, 1) := by decide +kernel
theorem dX12_numbers_60 : decode cX12_numbers 60 = .ok (.lastore, 1) := by decide +kernel
theorem dX12_numbers_61 : decode cX12_numbers 61 = .ok (.aload_n 0, 1) := by decide +kernel
theorem dX12_numbers_62 : decode cX12_numbers 62 = .ok (.getfield 41, 3) := by decide +kernel
theorem dX12_numbers_65 : decode cX12_numbers 65 = .ok (.bipush 7, 2) := by decide +kernel
theorem dX12_numbers_67 : decode cX12_numbers 67 = .ok (.iload 8, 2) := by decide +kernel
theorem dX12_numbers_69 : decode cX12_numbers 69 = .ok (.i2l, 1) := by decide +kernel
theorem dX12_numbers_70 : decode cX12_numbers 70 = .ok (.lastore, 1) := by decide +kernel
theorem dX12_numbers_71 : decode cX12_numbers 71 = .ok (.return_, 1) := by decide +kernel
theorem dX12_beginsSingle_0 : decode cX12_beginsSingle 0 = .ok (.aload_n 0, 1) := by decide +kernel
theorem dX12_beginsSingle_1 : decode cX12_beginsSingle 1 = .ok (.iload_n 1, 1) := by decide +kernel
theorem dX12_beginsSingle_2 : decode cX12_beginsSingle 2 = .ok (.iload_n 1, 1) := by decide +kernel
theorem dX12_beginsSingle_3 : decode cX12_beginsSingle 3 = .ok (.iconst 0, 1) := by decide +kernel
theorem dX12_beginsSingle_4 : decode cX12_beginsSingle 4 = .ok (.invokevirtual 176, 3) := by decide +kernel
theorem dX12_beginsSingle_7 : decode cX12_beginsSingle 7 = .ok (.aload_n 0, 1) := by decide +kernel
theorem dX12_beginsSingle_8 : decode cX12_beginsSingle 8 = .ok (.iload_n 2, 1) := by decide +kernel
theorem dX12_beginsSingle_9 : decode cX12_beginsSingle 9 = .ok (.iload_n 3, 1) := by decide +kernel
theorem dX12_beginsSingle_10 : decode cX12_beginsSingle 10 = .ok (.iconst 0, 1) := by decide +kernel
theorem dX12_beginsSingle_11 : decode cX12_beginsSingle 11 = .ok (.iconst 0, 1) := by decide +kernel
theorem dX12_beginsSingle_12 : decode cX12_beginsSingle 12 = .ok (.iload 4, 2) := by decide +kernel
theorem dX12_beginsSingle_14 : decode cX12_beginsSingle 14 = .ok (.iload 5, 2) := by decide +kernel
theorem dX12_beginsSingle_16 : decode cX12_beginsSingle 16 = .ok (.iconst 0, 1) := by decide +kernel
theorem dX12_beginsSingle_17 : decode cX12_beginsSingle 17 = .ok (.iconst 0, 1) := by decide +kernel
theorem dX12_beginsSingle_18 : decode cX12_beginsSingle 18 = .ok (.invokevirtual 180, 3) := by decide +kernel
theorem dX12_beginsSingle_21 : decode cX12_beginsSingle 21 = .ok (.return_, 1) := by decide +kernel
theorem dX12_beginsDouble_0 : decode cX12_beginsDouble 0 = .ok (.aload_n 0, 1) := by decide +kernel
theorem dX12_beginsDouble_1 : decode cX12_beginsDouble 1 = .ok (.iload_n 2, 1) := by decide +kernel
theorem dX12_beginsDouble_2 : decode cX12_beginsDouble 2 = .ok (.iload_n 3, 1) := by decide +kernel
theorem dX12_beginsDouble_3 : decode cX12_beginsDouble 3 = .ok (.iconst 1, 1) := by decide +kernel
theorem dX12_beginsDouble_4 : decode cX12_beginsDouble 4 = .ok (.invokevirtual 176, 3) := by decide +kernel
theorem dX12_beginsDouble_7 : decode cX12_beginsDouble 7 = .ok (.iload_n 1, 1) := by decide +kernel
theorem dX12_beginsDouble_8 : decode cX12_beginsDouble 8 = .ok (.tableswitch 73 0 2 #[28, 43, 58], 28) := by decide +kernel
theorem dX12_beginsDouble_36 : decode cX12_beginsDouble 36 = .ok (.aload_n 0, 1) := by decide +kernel
theorem dX12_beginsDouble_37 : decode cX12_beginsDouble 37 = .ok (.iconst 0, 1) := by decide +kernel
theorem dX12_beginsDouble_38 : decode cX12_beginsDouble 38 = .ok (.iconst 1, 1) := by decide +kernel
theorem dX12_beginsDouble_39 : decode cX12_beginsDouble 39 = .ok (.iconst 1, 1) := by decide +kernel
theorem dX12_beginsDouble_40 : decode cX12_beginsDouble 40 = .ok (.iconst 0, 1) := by decide +kernel
theorem dX12_beginsDouble_41 : decode cX12_beginsDouble 41 = .ok (.iconst 0, 1) := by decide +kernel
theorem dX12_beginsDouble_42 : decode cX12_beginsDouble 42 = .ok (.iconst 0, 1) := by decide +kernel
theorem dX12_beginsDouble_43 : decode cX12_beginsDouble 43 = .ok (.iconst 0, 1) := by decide +kernel
theorem dX12_beginsDouble_44 : decode cX12_beginsDouble 44 = .ok (.iconst 1, 1) := by decide +kernel
theorem dX12_beginsDouble_45 : decode cX12_beginsDouble 45 = .ok (.invokevirtual 180, 3) := by decide +kernel
theorem dX12_beginsDouble_48 : decode cX12_beginsDouble 48 = .ok (.goto 45, 3) := by decide +kernel
theorem dX12_beginsDouble_51 : decode cX12_beginsDouble 51 = .ok (.aload_n 0, 1) := by decide +kernel
theorem dX12_beginsDouble_52 : decode cX12_beginsDouble 52 = .ok (.iconst 0, 1) := by decide +kernel
theorem dX12_beginsDouble_53 : decode cX12_beginsDouble 53 = .ok (.iconst 1, 1) := by decide +kernel
theorem dX12_beginsDouble_54 : decode cX12_beginsDouble 54 = .ok (.iconst (-1), 1) := by decide +kernel
theorem dX12_beginsDouble_55 : decode cX12_beginsDouble 55 = .ok (.iconst 0, 1) := by decide +kernel
theorem dX12_beginsDouble_56 : decode cX12_beginsDouble 56 = .ok (.iconst 0, 1) := by decide +kernel
theorem dX12_beginsDouble_57 : decode cX12_beginsDouble 57 = .ok (.iconst 0, 1) := by decide +kernel
theorem dX12_beginsDouble_58 : decode cX12_beginsDouble 58 = .ok (.iconst 0, 1) := by decide +kernel
theorem dX12_beginsDouble_59 : decode cX12_beginsDouble 59 = .ok (.iconst 1, 1) := by decide +kernel
theorem dX12_beginsDouble_60 : decode cX12_beginsDouble 60 = .ok (.invokevirtual 180, 3) := by decide +kernel
theorem dX12_beginsDouble_63 : decode cX12_beginsDouble 63 = .ok (.goto 30, 3) := by decide +kernel
theorem dX12_beginsDouble_66 : decode cX12_beginsDouble 66 = .ok (.aload_n 0, 1) := by decide +kernel
theorem dX12_beginsDouble_67 : decode cX12_beginsDouble 67 = .ok (.iconst 1, 1) := by decide +kernel
theorem dX12_beginsDouble_68 : decode cX12_beginsDouble 68 = .ok (.iconst 0, 1) := by decide +kernel
theorem dX12_beginsDouble_69 : decode cX12_beginsDouble 69 = .ok (.iconst 0, 1) := by decide +kernel
theorem dX12_beginsDouble_70 : decode cX12_beginsDouble 70 = .ok (.iconst 0, 1) := by decide +kernel
theorem dX12_beginsDouble_71 : decode cX12_beginsDouble 71 = .ok (.iconst 0, 1) := by decide +kernel
theorem dX12_beginsDouble_72 : decode cX12_beginsDouble 72 = .ok (.iconst 0, 1) := by decide +kernel
theorem dX12_beginsDouble_73 : decode cX12_beginsDouble 73 = .ok (.iconst 0, 1) := by decide +kernel
theorem dX12_beginsDouble_74 : decode cX12_beginsDouble 74 = .ok (.iconst 1, 1) := by decide +kernel
theorem dX12_beginsDouble_75 : decode cX12_beginsDouble 75 = .ok (.invokevirtual 180, 3) := by decide +kernel
theorem dX12_beginsDouble_78 : decode cX12_beginsDouble 78 = .ok (.goto 15, 3) := by decide +kernel
theorem dX12_beginsDouble_81 : decode cX12_beginsDouble 81 = .ok (.aload_n 0, 1) := by decide +kernel
theorem dX12_beginsDouble_82 : decode cX12_beginsDouble 82 = .ok (.iconst 0, 1) := by decide +kernel
theorem dX12_beginsDouble_83 : decode cX12_beginsDouble 83 = .ok (.iconst 1, 1) := by decide +kernel
theorem dX12_beginsDouble_84 : decode cX12_beginsDouble 84 = .ok (.iconst 0, 1) := by decide +kernel
theorem dX12_beginsDouble_85 : decode cX12_beginsDouble 85 = .ok (.iconst 0, 1) := by decide +kernel
theorem dX12_beginsDouble_86 : decode cX12_beginsDouble 86 = .ok (.iconst 0, 1) := by decide +kernel
theorem dX12_beginsDouble_87 : decode cX12_beginsDouble 87 = .ok (.iconst 0, 1) := by decide +kernel
theorem dX12_beginsDouble_88 : decode cX12_beginsDouble 88 = .ok (.iconst 1, 1) := by decide +kernel
theorem dX12_beginsDouble_89 : decode cX12_beginsDouble 89 = .ok (.iconst 0, 1) := by decide +kernel
theorem dX12_beginsDouble_90 : decode cX12_beginsDouble 90 = .ok (.invokevirtual 180, 3) := by decide +kernel
theorem dX12_beginsDouble_93 : decode cX12_beginsDouble 93 = .ok (.return_, 1) := by decide +kernel
theorem dX12_hasEnded_0 : decode cX12_hasEnded 0 = .ok (.aload_n 0, 1) := by decide +kernel
theorem dX12_hasEnded_1 : decode cX12_hasEnded 1 = .ok (.getfield 158, 3) := by decide +kernel
theorem dX12_hasEnded_4 : decode cX12_hasEnded 4 = .ok (.ifCond .eq 25, 3) := by decide +kernel
theorem dX12_hasEnded_7 : decode cX12_hasEnded 7 = .ok (.aload_n 0, 1) := by decide +kernel
theorem dX12_hasEnded_8 : decode cX12_hasEnded 8 = .ok (.getfield 161, 3) := by decide +kernel
theorem dX12_hasEnded_11 : decode cX12_hasEnded 11 = .ok (.ifCond .eq 18, 3) := by decide +kernel
theorem dX12_hasEnded_14 : decode cX12_hasEnded 14 = .ok (.aload_n 0, 1) := by decide +kernel
theorem dX12_hasEnded_15 : decode cX12_hasEnded 15 = .ok (.getfield 41, 3) := by decide +kernel
theorem dX12_hasEnded_18 : decode cX12_hasEnded 18 = .ok (.iconst 4, 1) := by decide +kernel
theorem dX12_hasEnded_19 : decode cX12_hasEnded 19 = .ok (.laload, 1) := by decide +kernel
theorem dX12_hasEnded_20 : decode cX12_hasEnded 20 = .ok (.lconst 0, 1) := by decide +kernel
theorem dX12_hasEnded_21 : decode cX12_hasEnded 21 = .ok (.lcmp, 1) := by decide +kernel
theorem dX12_hasEnded_22 : decode cX12_hasEnded 22 = .ok (.ifCond .ne 7, 3) := by decide +kernel
theorem dX12_hasEnded_25 : decode cX12_hasEnded 25 = .ok (.iconst 1, 1) := by decide +kernel
theorem dX12_hasEnded_26 : decode cX12_hasEnded 26 = .ok (.goto 4, 3) := by decide +kernel
theorem dX12_hasEnded_29 : decode cX12_hasEnded 29 = .ok (.iconst 0, 1) := by decide +kernel
theorem dX12_hasEnded_30 : decode cX12_hasEnded 30 = .ok (.ireturn, 1) := by decide +kernel
theorem dX12_mayBeSure_0 : decode cX12_mayBeSure 0 = .ok (.aload_n 0, 1) := by decide +kernel
theorem dX12_mayBeSure_1 : decode cX12_mayBeSure 1 = .ok (.getfield 158, 3) := by decide +kernel
theorem dX12_mayBeSure_4 : decode cX12_mayBeSure 4 = .ok (.ifCond .ne 10, 3) := by decide +kernel
theorem dX12_mayBeSure_7 : decode cX12_mayBeSure 7 = .ok (.aload_n 0, 1) := by decide +kernel
theorem dX12_mayBeSure_8 : decode cX12_mayBeSure 8 = .ok (.getfield 167, 3) := by decide +kernel
theorem dX12_mayBeSure_11 : decode cX12_mayBeSure 11 = .ok (.ifCond .le 7, 3) := by decide +kernel
theorem dX12_mayBeSure_14 : decode cX12_mayBeSure 14 = .ok (.iconst 1, 1) := by decide +kernel
theorem dX12_mayBeSure_15 : decode cX12_mayBeSure 15 = .ok (.goto 4, 3) := by decide +kernel
theorem dX12_mayBeSure_18 : decode cX12_mayBeSure 18 = .ok (.iconst 0, 1) := by decide +kernel
theorem dX12_mayBeSure_19 : decode cX12_mayBeSure 19 = .ok (.istore_n 1, 1) := by decide +kernel
theorem dX12_mayBeSure_20 : decode cX12_mayBeSure 20 = .ok (.iload_n 1, 1) := by decide +kernel
theorem dX12_mayBeSure_21 : decode cX12_mayBeSure 21 = .ok (.ifCond .eq 28, 3) := by decide +kernel
theorem dX12_mayBeSure_24 : decode cX12_mayBeSure 24 = .ok (.aload_n 0, 1) := by decide +kernel
theorem dX12_mayBeSure_25 : decode cX12_mayBeSure 25 = .ok (.getfield 155, 3) := by decide +kernel
theorem dX12_mayBeSure_28 : decode cX12_mayBeSure 28 = .ok (.ifCond .eq 17, 3) := by decide +kernel
theorem dX12_mayBeSure_31 : decode cX12_mayBeSure 31 = .ok (.aload_n 0, 1) := by decide +kernel
theorem dX12_mayBeSure_32 : decode cX12_mayBeSure 32 = .ok (.getfield 161, 3) := by decide +kernel
theorem dX12_mayBeSure_35 : decode cX12_mayBeSure 35 = .ok (.ifCond .ne 10, 3) := by decide +kernel
theorem dX12_mayBeSure_38 : decode cX12_mayBeSure 38 = .ok (.aload_n 0, 1) := by decide +kernel
theorem dX12_mayBeSure_39 : decode cX12_mayBeSure 39 = .ok (.getfield 170, 3) := by decide +kernel
theorem dX12_mayBeSure_42 : decode cX12_mayBeSure 42 = .ok (.ifCond .le 7, 3) := by decide +kernel
theorem dX12_mayBeSure_45 : decode cX12_mayBeSure 45 = .ok (.iconst 1, 1) := by decide +kernel
theorem dX12_mayBeSure_46 : decode cX12_mayBeSure 46 = .ok (.goto 4, 3) := by decide +kernel
theorem dX12_mayBeSure_49 : decode cX12_mayBeSure 49 = .ok (.iconst 0, 1) := by decide +kernel
theorem dX12_mayBeSure_50 : decode cX12_mayBeSure 50 = .ok (.ireturn, 1) := by decide +kernel
theorem dX12_haveOneSign_0 : decode cX12_haveOneSign 0 = .ok (.lload_n 0, 1) := by decide +kernel
theorem dX12_haveOneSign_1 : decode cX12_haveOneSign 1 = .ok (.lconst 0, 1) := by decide +kernel
theorem dX12_haveOneSign_2 : decode cX12_haveOneSign 2 = .ok (.lcmp, 1) := by decide +kernel
theorem dX12_haveOneSign_3 : decode cX12_haveOneSign 3 = .ok (.ifCond .le 9, 3) := by decide +kernel
theorem dX12_haveOneSign_6 : decode cX12_haveOneSign 6 = .ok (.lload_n 2, 1) := by decide +kernel
theorem dX12_haveOneSign_7 : decode cX12_haveOneSign 7 = .ok (.lconst 0, 1) := by decide +kernel
theorem dX12_haveOneSign_8 : decode cX12_haveOneSign 8 = .ok (.lcmp, 1) := by decide +kernel
theorem dX12_haveOneSign_9 : decode cX12_haveOneSign 9 = .ok (.ifCond .gt 15, 3) := by decide +kernel
theorem dX12_haveOneSign_12 : decode cX12_haveOneSign 12 = .ok (.lload_n 0, 1) := by decide +kernel
theorem dX12_haveOneSign_13 : decode cX12_haveOneSign 13 = .ok (.lconst 0, 1) := by decide +kernel
theorem dX12_haveOneSign_14 : decode cX12_haveOneSign 14 = .ok (.lcmp, 1) := by decide +kernel
theorem dX12_haveOneSign_15 : decode cX12_haveOneSign 15 = .ok (.ifCond .ge 13, 3) := by decide +kernel
theorem dX12_haveOneSign_18 : decode cX12_haveOneSign 18 = .ok (.lload_n 2, 1) := by decide +kernel
theorem dX12_haveOneSign_19 : decode cX12_haveOneSign 19 = .ok (.lconst 0, 1) := by decide +kernel
theorem dX12_haveOneSign_20 : decode cX12_haveOneSign 20 = .ok (.lcmp, 1) := by decide +kernel
theorem dX12_haveOneSign_21 : decode cX12_haveOneSign 21 = .ok (.ifCond .ge 7, 3) := by decide +kernel
theorem dX12_haveOneSign_24 : decode cX12_haveOneSign 24 = .ok (.iconst 1, 1) := by decide +kernel
theorem dX12_haveOneSign_25 : decode cX12_haveOneSign 25 = .ok (.goto 4, 3) := by decide +kernel
theorem dX12_haveOneSign_28 : decode cX12_haveOneSign 28 = .ok (.iconst 0, 1) := by decide +kernel
theorem dX12_haveOneSign_29 : decode cX12_haveOneSign 29 = .ok (.ireturn, 1) := by decide +kernel
theorem dX12_corner_0 : decode cX12_corner 0 = .ok (.aload_n 0, 1) := by decide +kernel
theorem dX12_corner_1 : decode cX12_corner 1 = .ok (.getfield 41, 3) := by decide +kernel
theorem dX12_corner_4 : decode cX12_corner 4 = .ok (.iload_n 1, 1) := by decide +kernel
theorem dX12_corner_5 : decode cX12_corner 5 = .ok (.laload, 1) := by decide +kernel
theorem dX12_corner_6 : decode cX12_corner 6 = .ok (.lstore_n 3, 1) := by decide +kernel
theorem dX12_corner_7 : decode cX12_corner 7 = .ok (.iload_n 2, 1) := by decide +kernel
theorem dX12_corner_8 : decode cX12_corner 8 = .ok (.iconst 1, 1) := by decide +kernel
theorem dX12_corner_9 : decode cX12_corner 9 = .ok (.if_icmp .eq 8, 3) := by decide +kernel
theorem dX12_corner_12 : decode cX12_corner 12 = .ok (.iload_n 2, 1) := by decide +kernel
theorem dX12_corner_13 : decode cX12_corner 13 = .ok (.iconst 3, 1) := by decide +kernel
theorem dX12_corner_14 : decode cX12_corner 14 = .ok (.if_icmp .ne 14, 3) := by decide +kernel
theorem dX12_corner_17 : decode cX12_corner 17 = .ok (.lload_n 3, 1) := by decide +kernel
theorem dX12_corner_18 : decode cX12_corner 18 = .ok (.aload_n 0, 1) := by decide +kernel
theorem dX12_corner_19 : decode cX12_corner 19 = .ok (.getfield 41, 3) := by decide +kernel
theorem dX12_corner_22 : decode cX12_corner 22 = .ok (.iload_n 1, 1) := by decide +kernel
theorem dX12_corner_23 : decode cX12_corner 23 = .ok (.iconst 1, 1) := by decide +kernel
theorem dX12_corner_24 : decode cX12_corner 24 = .ok (.iadd, 1) := by decide +kernel
theorem dX12_corner_25 : decode cX12_corner 25 = .ok (.laload, 1) := by decide +kernel
theorem dX12_corner_26 : decode cX12_corner 26 = .ok (.ladd, 1) := by decide +kernel
theorem dX12_corner_27 : decode cX12_corner 27 = .ok (.lstore_n 3, 1) := by decide +kernel
theorem dX12_corner_28 : decode cX12_corner 28 = .ok (.iload_n 2, 1) := by decide +kernel
theorem dX12_corner_29 : decode cX12_corner 29 = .ok (.iconst 2, 1) := by decide +kernel
theorem dX12_corner_30 : decode cX12_corner 30 = .ok (.if_icmp .eq 8, 3) := by decide +kernel
theorem dX12_corner_33 : decode cX12_corner 33 = .ok (.iload_n 2, 1) := by decide +kernel
theorem dX12_corner_34 : decode cX12_corner 34 = .ok (.iconst 3, 1) := by decide +kernel
theorem dX12_corner_35 : decode cX12_corner 35 = .ok (.if_icmp .ne 14, 3) := by decide +kernel
theorem dX12_corner_38 : decode cX12_corner 38 = .ok (.lload_n 3, 1) := by decide +kernel
theorem dX12_corner_39 : decode cX12_corner 39 = .ok (.aload_n 0, 1) := by decide +kernel
theorem dX12_corner_40 : decode cX12_corner 40 = .ok (.getfield 41, 3) := by decide +kernel
theorem dX12_corner_43 : decode cX12_corner 43 = .ok (.iload_n 1, 1) := by decide +kernel
theorem dX12_corner_44 : decode cX12_corner 44 = .ok (.iconst 2, 1) := by decide +kernel
theorem dX12_corner_45 : decode cX12_corner 45 = .ok (.iadd, 1) := by decide +kernel
theorem dX12_corner_46 : decode cX12_corner 46 = .ok (.laload, 1) := by decide +kernel
theorem dX12_corner_47 : decode cX12_corner 47 = .ok (.ladd, 1) := by decide +kernel
theorem dX12_corner_48 : decode cX12_corner 48 = .ok (.lstore_n 3, 1) := by decide +kernel
theorem dX12_corner_49 : decode cX12_corner 49 = .ok (.iload_n 2, 1) := by decide +kernel
theorem dX12_corner_50 : decode cX12_corner 50 = .ok (.iconst 3, 1) := by decide +kernel
theorem dX12_corner_51 : decode cX12_corner 51 = .ok (.if_icmp .ne 16, 3) := by decide +kernel
theorem dX12_corner_54 : decode cX12_corner 54 = .ok (.lload_n 3, 1) := by decide +kernel
theorem dX12_corner_55 : decode cX12_corner 55 = .ok (.aload_n 0, 1) := by decide +kernel
theorem dX12_corner_56 : decode cX12_corner 56 = .ok (.getfield 41, 3) := by decide +kernel
theorem dX12_corner_59 : decode cX12_corner 59 = .ok (.iload_n 1, 1) := by decide +kernel
theorem dX12_corner_60 : decode cX12_corner 60 = .ok (.iconst 3, 1) := by decide +kernel
theorem dX12_corner_61 : decode cX12_corner 61 = .ok (.iadd, 1) := by decide +kernel
theorem dX12_corner_62 : decode cX12_corner 62 = .ok (.laload, 1) := by decide +kernel
theorem dX12_corner_63 : decode cX12_corner 63 = .ok (.ladd, 1) := by decide +kernel
theorem dX12_corner_64 : decode cX12_corner 64 = .ok (.goto 4, 3) := by decide +kernel
theorem dX12_corner_67 : decode cX12_corner 67 = .ok (.lload_n 3, 1) := by decide +kernel
theorem dX12_corner_68 : decode cX12_corner 68 = .ok (.lreturn, 1) := by decide +kernel
theorem dX12_corners_0 : decode cX12_corners 0 = .ok (.aload_n 0, 1) := by decide +kernel
theorem dX12_corners_1 : decode cX12_corners 1 = .ok (.getfield 155, 3) := by decide +kernel
theorem dX12_corners_4 : decode cX12_corners 4 = .ok (.ifCond .eq 7, 3) := by decide +kernel
theorem dX12_corners_7 : decode cX12_corners 7 = .ok (.iconst 4, 1) := by decide +kernel
theorem dX12_corners_8 : decode cX12_corners 8 = .ok (.goto 4, 3) := by decide +kernel
theorem dX12_corners_11 : decode cX12_corners 11 = .ok (.iconst 2, 1) := by decide +kernel
theorem dX12_corners_12 : decode cX12_corners 12 = .ok (.ireturn, 1) := by decide +kernel
theorem dX12_isSure_0 : decode cX12_isSure 0 = .ok (.aload_n 0, 1) := by decide +kernel
theorem dX12_isSure_1 : decode cX12_isSure 1 = .ok (.invokevirtual 184, 3) := by decide +kernel
theorem dX12_isSure_4 : decode cX12_isSure 4 = .ok (.ifCond .eq 14, 3) := by decide +kernel
theorem dX12_isSure_7 : decode cX12_isSure 7 = .ok (.aload_n 0, 1) := by decide +kernel
theorem dX12_isSure_8 : decode cX12_isSure 8 = .ok (.getfield 41, 3) := by decide +kernel
theorem dX12_isSure_11 : decode cX12_isSure 11 = .ok (.iconst 4, 1) := by decide +kernel
theorem dX12_isSure_12 : decode cX12_isSure 12 = .ok (.laload, 1) := by decide +kernel
theorem dX12_isSure_13 : decode cX12_isSure 13 = .ok (.lconst 0, 1) := by decide +kernel
theorem dX12_isSure_14 : decode cX12_isSure 14 = .ok (.lcmp, 1) := by decide +kernel
theorem dX12_isSure_15 : decode cX12_isSure 15 = .ok (.ifCond .ne 5, 3) := by decide +kernel
theorem dX12_isSure_18 : decode cX12_isSure 18 = .ok (.iconst 0, 1) := by decide +kernel
theorem dX12_isSure_19 : decode cX12_isSure 19 = .ok (.ireturn, 1) := by decide +kernel
theorem dX12_isSure_20 : decode cX12_isSure 20 = .ok (.aload_n 0, 1) := by decide +kernel
theorem dX12_isSure_21 : decode cX12_isSure 21 = .ok (.getfield 41, 3) := by decide +kernel
theorem dX12_isSure_24 : decode cX12_isSure 24 = .ok (.iconst 0, 1) := by decide +kernel
theorem dX12_isSure_25 : decode cX12_isSure 25 = .ok (.laload, 1) := by decide +kernel
theorem dX12_isSure_26 : decode cX12_isSure 26 = .ok (.aload_n 0, 1) := by decide +kernel
theorem dX12_isSure_27 : decode cX12_isSure 27 = .ok (.getfield 41, 3) := by decide +kernel
theorem dX12_isSure_30 : decode cX12_isSure 30 = .ok (.iconst 4, 1) := by decide +kernel
theorem dX12_isSure_31 : decode cX12_isSure 31 = .ok (.laload, 1) := by decide +kernel
theorem dX12_isSure_32 : decode cX12_isSure 32 = .ok (.invokestatic 103, 3) := by decide +kernel
theorem dX12_isSure_35 : decode cX12_isSure 35 = .ok (.lstore_n 1, 1) := by decide +kernel
theorem dX12_isSure_36 : decode cX12_isSure 36 = .ok (.iconst 1, 1) := by decide +kernel
theorem dX12_isSure_37 : decode cX12_isSure 37 = .ok (.istore_n 3, 1) := by decide +kernel
theorem dX12_isSure_38 : decode cX12_isSure 38 = .ok (.iload_n 3, 1) := by decide +kernel
theorem dX12_isSure_39 : decode cX12_isSure 39 = .ok (.aload_n 0, 1) := by decide +kernel
theorem dX12_isSure_40 : decode cX12_isSure 40 = .ok (.invokevirtual 188, 3) := by decide +kernel
theorem dX12_isSure_43 : decode cX12_isSure 43 = .ok (.if_icmp .ge 49, 3) := by decide +kernel
theorem dX12_isSure_46 : decode cX12_isSure 46 = .ok (.aload_n 0, 1) := by decide +kernel
theorem dX12_isSure_47 : decode cX12_isSure 47 = .ok (.iconst 4, 1) := by decide +kernel
theorem dX12_isSure_48 : decode cX12_isSure 48 = .ok (.iload_n 3, 1) := by decide +kernel
theorem dX12_isSure_49 : decode cX12_isSure 49 = .ok (.invokevirtual 192, 3) := by decide +kernel
theorem dX12_isSure_52 : decode cX12_isSure 52 = .ok (.lstore 4, 2) := by decide +kernel
theorem dX12_isSure_54 : decode cX12_isSure 54 = .ok (.aload_n 0, 1) := by decide +kernel
theorem dX12_isSure_55 : decode cX12_isSure 55 = .ok (.getfield 41, 3) := by decide +kernel
theorem dX12_isSure_58 : decode cX12_isSure 58 = .ok (.iconst 4, 1) := by decide +kernel
theorem dX12_isSure_59 : decode cX12_isSure 59 = .ok (.laload, 1) := by decide +kernel
theorem dX12_isSure_60 : decode cX12_isSure 60 = .ok (.lload 4, 2) := by decide +kernel
theorem dX12_isSure_62 : decode cX12_isSure 62 = .ok (.invokestatic 196, 3) := by decide +kernel
theorem dX12_isSure_65 : decode cX12_isSure 65 = .ok (.ifCond .eq 19, 3) := by decide +kernel
theorem dX12_isSure_68 : decode cX12_isSure 68 = .ok (.aload_n 0, 1) := by decide +kernel
theorem dX12_isSure_69 : decode cX12_isSure 69 = .ok (.iconst 0, 1) := by decide +kernel
theorem dX12_isSure_70 : decode cX12_isSure 70 = .ok (.iload_n 3, 1) := by decide +kernel
theorem dX12_isSure_71 : decode cX12_isSure 71 = .ok (.invokevirtual 192, 3) := by decide +kernel
theorem dX12_isSure_74 : decode cX12_isSure 74 = .ok (.lload 4, 2) := by decide +kernel
theorem dX12_isSure_76 : decode cX12_isSure 76 = .ok (.invokestatic 103, 3) := by decide +kernel
theorem dX12_isSure_79 : decode cX12_isSure 79 = .ok (.lload_n 1, 1) := by decide +kernel
theorem dX12_isSure_80 : decode cX12_isSure 80 = .ok (.lcmp, 1) := by decide +kernel
theorem dX12_isSure_81 : decode cX12_isSure 81 = .ok (.ifCond .eq 5, 3) := by decide +kernel
theorem dX12_isSure_84 : decode cX12_isSure 84 = .ok (.iconst 0, 1) := by decide +kernel
theorem dX12_isSure_85 : decode cX12_isSure 85 = .ok (.ireturn, 1) := by decide +kernel
theorem dX12_isSure_86 : decode cX12_isSure 86 = .ok (.iinc 3 1, 3) := by decide +kernel
theorem dX12_isSure_89 : decode cX12_isSure 89 = .ok (.goto (-51), 3) := by decide +kernel
theorem dX12_isSure_92 : decode cX12_isSure 92 = .ok (.iconst 1, 1) := by decide +kernel
theorem dX12_isSure_93 : decode cX12_isSure 93 = .ok (.ireturn, 1) := by decide +kernel
theorem dX12_letsOut_0 : decode cX12_letsOut 0 = .ok (.lload_n 1, 1) := by decide +kernel
theorem dX12_letsOut_1 : decode cX12_letsOut 1 = .ok (.ldc2_w 200, 3) := by decide +kernel
theorem dX12_letsOut_4 : decode cX12_letsOut 4 = .ok (.lcmp, 1) := by decide +kernel
theorem dX12_letsOut_5 : decode cX12_letsOut 5 = .ok (.ifCond .gt 11, 3) := by decide +kernel
theorem dX12_letsOut_8 : decode cX12_letsOut 8 = .ok (.lload_n 1, 1) := by decide +kernel
theorem dX12_letsOut_9 : decode cX12_letsOut 9 = .ok (.ldc2_w 202, 3) := by decide +kernel
theorem dX12_letsOut_12 : decode cX12_letsOut 12 = .ok (.lcmp, 1) := by decide +kernel
theorem dX12_letsOut_13 : decode cX12_letsOut 13 = .ok (.ifCond .ge 5, 3) := by decide +kernel
theorem dX12_letsOut_16 : decode cX12_letsOut 16 = .ok (.iconst 0, 1) := by decide +kernel
theorem dX12_letsOut_17 : decode cX12_letsOut 17 = .ok (.ireturn, 1) := by decide +kernel
theorem dX12_letsOut_18 : decode cX12_letsOut 18 = .ok (.aload_n 0, 1) := by decide +kernel
theorem dX12_letsOut_19 : decode cX12_letsOut 19 = .ok (.iconst 0, 1) := by decide +kernel
theorem dX12_letsOut_20 : decode cX12_letsOut 20 = .ok (.putfield 141, 3) := by decide +kernel
theorem dX12_letsOut_23 : decode cX12_letsOut 23 = .ok (.iconst 0, 1) := by decide +kernel
theorem dX12_letsOut_24 : decode cX12_letsOut 24 = .ok (.istore_n 3, 1) := by decide +kernel
theorem dX12_letsOut_25 : decode cX12_letsOut 25 = .ok (.iload_n 3, 1) := by decide +kernel
theorem dX12_letsOut_26 : decode cX12_letsOut 26 = .ok (.iconst 4, 1) := by decide +kernel
theorem dX12_letsOut_27 : decode cX12_letsOut 27 = .ok (.if_icmp .ge 51, 3) := by decide +kernel
theorem dX12_letsOut_30 : decode cX12_letsOut 30 = .ok (.aload_n 0, 1) := by decide +kernel
theorem dX12_letsOut_31 : decode cX12_letsOut 31 = .ok (.getfield 44, 3) := by decide +kernel
theorem dX12_letsOut_34 : decode cX12_letsOut 34 = .ok (.iload_n 3, 1) := by decide +kernel
theorem dX12_letsOut_35 : decode cX12_letsOut 35 = .ok (.aload_n 0, 1) := by decide +kernel
theorem dX12_letsOut_36 : decode cX12_letsOut 36 = .ok (.getfield 41, 3) := by decide +kernel
theorem dX12_letsOut_39 : decode cX12_letsOut 39 = .ok (.iload_n 3, 1) := by decide +kernel
theorem dX12_letsOut_40 : decode cX12_letsOut 40 = .ok (.iconst 4, 1) := by decide +kernel
theorem dX12_letsOut_41 : decode cX12_letsOut 41 = .ok (.iadd, 1) := by decide +kernel
theorem dX12_letsOut_42 : decode cX12_letsOut 42 = .ok (.laload, 1) := by decide +kernel
theorem dX12_letsOut_43 : decode cX12_letsOut 43 = .ok (.lastore, 1) := by decide +kernel
theorem dX12_letsOut_44 : decode cX12_letsOut 44 = .ok (.aload_n 0, 1) := by decide +kernel
theorem dX12_letsOut_45 : decode cX12_letsOut 45 = .ok (.getfield 44, 3) := by decide +kernel
theorem dX12_letsOut_48 : decode cX12_letsOut 48 = .ok (.iload_n 3, 1) := by decide +kernel
theorem dX12_letsOut_49 : decode cX12_letsOut 49 = .ok (.iconst 4, 1) := by decide +kernel
theorem dX12_letsOut_50 : decode cX12_letsOut 50 = .ok (.iadd, 1) := by decide +kernel
theorem dX12_letsOut_51 : decode cX12_letsOut 51 = .ok (.aload_n 0, 1) := by decide +kernel
theorem dX12_letsOut_52 : decode cX12_letsOut 52 = .ok (.aload_n 0, 1) := by decide +kernel
theorem dX12_letsOut_53 : decode cX12_letsOut 53 = .ok (.getfield 41, 3) := by decide +kernel
theorem dX12_letsOut_56 : decode cX12_letsOut 56 = .ok (.iload_n 3, 1) := by decide +kernel
theorem dX12_letsOut_57 : decode cX12_letsOut 57 = .ok (.iconst 4, 1) := by decide +kernel
theorem dX12_letsOut_58 : decode cX12_letsOut 58 = .ok (.iadd, 1) := by decide +kernel
theorem dX12_letsOut_59 : decode cX12_letsOut 59 = .ok (.laload, 1) := by decide +kernel
theorem dX12_letsOut_60 : decode cX12_letsOut 60 = .ok (.lneg, 1) := by decide +kernel
theorem dX12_letsOut_61 : decode cX12_letsOut 61 = .ok (.lload_n 1, 1) := by decide +kernel
theorem dX12_letsOut_62 : decode cX12_letsOut 62 = .ok (.aload_n 0, 1) := by decide +kernel
theorem dX12_letsOut_63 : decode cX12_letsOut 63 = .ok (.getfield 41, 3) := by decide +kernel
theorem dX12_letsOut_66 : decode cX12_letsOut 66 = .ok (.iload_n 3, 1) := by decide +kernel
theorem dX12_letsOut_67 : decode cX12_letsOut 67 = .ok (.laload, 1) := by decide +kernel
theorem dX12_letsOut_68 : decode cX12_letsOut 68 = .ok (.invokevirtual 204, 3) := by decide +kernel
theorem dX12_letsOut_71 : decode cX12_letsOut 71 = .ok (.lastore, 1) := by decide +kernel
theorem dX12_letsOut_72 : decode cX12_letsOut 72 = .ok (.iinc 3 1, 3) := by decide +kernel
theorem dX12_letsOut_75 : decode cX12_letsOut 75 = .ok (.goto (-50), 3) := by decide +kernel
theorem dX12_letsOut_78 : decode cX12_letsOut 78 = .ok (.aload_n 0, 1) := by decide +kernel
theorem dX12_letsOut_79 : decode cX12_letsOut 79 = .ok (.getfield 141, 3) := by decide +kernel
theorem dX12_letsOut_82 : decode cX12_letsOut 82 = .ok (.ifCond .eq 5, 3) := by decide +kernel
theorem dX12_letsOut_85 : decode cX12_letsOut 85 = .ok (.iconst 0, 1) := by decide +kernel
theorem dX12_letsOut_86 : decode cX12_letsOut 86 = .ok (.ireturn, 1) := by decide +kernel
theorem dX12_letsOut_87 : decode cX12_letsOut 87 = .ok (.aload_n 0, 1) := by decide +kernel
theorem dX12_letsOut_88 : decode cX12_letsOut 88 = .ok (.invokevirtual 207, 3) := by decide +kernel
theorem dX12_letsOut_91 : decode cX12_letsOut 91 = .ok (.aload_n 0, 1) := by decide +kernel
theorem dX12_letsOut_92 : decode cX12_letsOut 92 = .ok (.iconst 0, 1) := by decide +kernel
theorem dX12_letsOut_93 : decode cX12_letsOut 93 = .ok (.putfield 173, 3) := by decide +kernel
theorem dX12_letsOut_96 : decode cX12_letsOut 96 = .ok (.iconst 1, 1) := by decide +kernel
theorem dX12_letsOut_97 : decode cX12_letsOut 97 = .ok (.ireturn, 1) := by decide +kernel
theorem dX12_takesThen_0 : decode cX12_takesThen 0 = .ok (.iconst 0, 1) := by decide +kernel
theorem dX12_takesThen_1 : decode cX12_takesThen 1 = .ok (.istore_n 1, 1) := by decide +kernel
theorem dX12_takesThen_2 : decode cX12_takesThen 2 = .ok (.iload_n 1, 1) := by decide +kernel
theorem dX12_takesThen_3 : decode cX12_takesThen 3 = .ok (.bipush 8, 2) := by decide +kernel
theorem dX12_takesThen_5 : decode cX12_takesThen 5 = .ok (.if_icmp .ge 21, 3) := by decide +kernel
theorem dX12_takesThen_8 : decode cX12_takesThen 8 = .ok (.aload_n 0, 1) := by decide +kernel
theorem dX12_takesThen_9 : decode cX12_takesThen 9 = .ok (.getfield 41, 3) := by decide +kernel
theorem dX12_takesThen_12 : decode cX12_takesThen 12 = .ok (.iload_n 1, 1) := by decide +kernel
theorem dX12_takesThen_13 : decode cX12_takesThen 13 = .ok (.aload_n 0, 1) := by decide +kernel
theorem dX12_takesThen_14 : decode cX12_takesThen 14 = .ok (.getfield 44, 3) := by decide +kernel
theorem dX12_takesThen_17 : decode cX12_takesThen 17 = .ok (.iload_n 1, 1) := by decide +kernel
theorem dX12_takesThen_18 : decode cX12_takesThen 18 = .ok (.laload, 1) := by decide +kernel
theorem dX12_takesThen_19 : decode cX12_takesThen 19 = .ok (.lastore, 1) := by decide +kernel
theorem dX12_takesThen_20 : decode cX12_takesThen 20 = .ok (.iinc 1 1, 3) := by decide +kernel
theorem dX12_takesThen_23 : decode cX12_takesThen 23 = .ok (.goto (-21), 3) := by decide +kernel
theorem dX12_takesThen_26 : decode cX12_takesThen 26 = .ok (.return_, 1) := by decide +kernel
theorem dX12_readsSingle_0 : decode cX12_readsSingle 0 = .ok (.iconst 0, 1) := by decide +kernel
theorem dX12_readsSingle_1 : decode cX12_readsSingle 1 = .ok (.istore_n 3, 1) := by decide +kernel
theorem dX12_readsSingle_2 : decode cX12_readsSingle 2 = .ok (.iload_n 3, 1) := by decide +kernel
theorem dX12_readsSingle_3 : decode cX12_readsSingle 3 = .ok (.bipush 8, 2) := by decide +kernel
theorem dX12_readsSingle_5 : decode cX12_readsSingle 5 = .ok (.if_icmp .ge 66, 3) := by decide +kernel
theorem dX12_readsSingle_8 : decode cX12_readsSingle 8 = .ok (.aload_n 0, 1) := by decide +kernel
theorem dX12_readsSingle_9 : decode cX12_readsSingle 9 = .ok (.getfield 44, 3) := by decide +kernel
theorem dX12_readsSingle_12 : decode cX12_readsSingle 12 = .ok (.iload_n 3, 1) := by decide +kernel
theorem dX12_readsSingle_13 : decode cX12_readsSingle 13 = .ok (.aload_n 0, 1) := by decide +kernel
theorem dX12_readsSingle_14 : decode cX12_readsSingle 14 = .ok (.aload_n 0, 1) := by decide +kernel
theorem dX12_readsSingle_15 : decode cX12_readsSingle 15 = .ok (.getfield 41, 3) := by decide +kernel
theorem dX12_readsSingle_18 : decode cX12_readsSingle 18 = .ok (.iload_n 3, 1) := by decide +kernel
theorem dX12_readsSingle_19 : decode cX12_readsSingle 19 = .ok (.laload, 1) := by decide +kernel
theorem dX12_readsSingle_20 : decode cX12_readsSingle 20 = .ok (.lload_n 1, 1) := by decide +kernel
theorem dX12_readsSingle_21 : decode cX12_readsSingle 21 = .ok (.aload_n 0, 1) := by decide +kernel
theorem dX12_readsSingle_22 : decode cX12_readsSingle 22 = .ok (.getfield 41, 3) := by decide +kernel
theorem dX12_readsSingle_25 : decode cX12_readsSingle 25 = .ok (.iload_n 3, 1) := by decide +kernel
theorem dX12_readsSingle_26 : decode cX12_readsSingle 26 = .ok (.iconst 1, 1) := by decide +kernel
theorem dX12_readsSingle_27 : decode cX12_readsSingle 27 = .ok (.iadd, 1) := by decide +kernel
theorem dX12_readsSingle_28 : decode cX12_readsSingle 28 = .ok (.laload, 1) := by decide +kernel
theorem dX12_readsSingle_29 : decode cX12_readsSingle 29 = .ok (.invokevirtual 204, 3) := by decide +kernel
theorem dX12_readsSingle_32 : decode cX12_readsSingle 32 = .ok (.lastore, 1) := by decide +kernel
theorem dX12_readsSingle_33 : decode cX12_readsSingle 33 = .ok (.aload_n 0, 1) := by decide +kernel
theorem dX12_readsSingle_34 : decode cX12_readsSingle 34 = .ok (.getfield 44, 3) := by decide +kernel
theorem dX12_readsSingle_37 : decode cX12_readsSingle 37 = .ok (.iload_n 3, 1) := by decide +kernel
theorem dX12_readsSingle_38 : decode cX12_readsSingle 38 = .ok (.iconst 1, 1) := by decide +kernel
theorem dX12_readsSingle_39 : decode cX12_readsSingle 39 = .ok (.iadd, 1) := by decide +kernel
theorem dX12_readsSingle_40 : decode cX12_readsSingle 40 = .ok (.aload_n 0, 1) := by decide +kernel
theorem dX12_readsSingle_41 : decode cX12_readsSingle 41 = .ok (.getfield 41, 3) := by decide +kernel
theorem dX12_readsSingle_44 : decode cX12_readsSingle 44 = .ok (.iload_n 3, 1) := by decide +kernel
theorem dX12_readsSingle_45 : decode cX12_readsSingle 45 = .ok (.laload, 1) := by decide +kernel
theorem dX12_readsSingle_46 : decode cX12_readsSingle 46 = .ok (.lastore, 1) := by decide +kernel
theorem dX12_readsSingle_47 : decode cX12_readsSingle 47 = .ok (.aload_n 0, 1) := by decide +kernel
theorem dX12_readsSingle_48 : decode cX12_readsSingle 48 = .ok (.getfield 44, 3) := by decide +kernel
theorem dX12_readsSingle_51 : decode cX12_readsSingle 51 = .ok (.iload_n 3, 1) := by decide +kernel
theorem dX12_readsSingle_52 : decode cX12_readsSingle 52 = .ok (.iconst 2, 1) := by decide +kernel
theorem dX12_readsSingle_53 : decode cX12_readsSingle 53 = .ok (.iadd, 1) := by decide +kernel
theorem dX12_readsSingle_54 : decode cX12_readsSingle 54 = .ok (.lconst 0, 1) := by decide +kernel
theorem dX12_readsSingle_55 : decode cX12_readsSingle 55 = .ok (.lastore, 1) := by decide +kernel
theorem dX12_readsSingle_56 : decode cX12_readsSingle 56 = .ok (.aload_n 0, 1) := by decide +kernel
theorem dX12_readsSingle_57 : decode cX12_readsSingle 57 = .ok (.getfield 44, 3) := by decide +kernel
theorem dX12_readsSingle_60 : decode cX12_readsSingle 60 = .ok (.iload_n 3, 1) := by decide +kernel
theorem dX12_readsSingle_61 : decode cX12_readsSingle 61 = .ok (.iconst 3, 1) := by decide +kernel
theorem dX12_readsSingle_62 : decode cX12_readsSingle 62 = .ok (.iadd, 1) := by decide +kernel
theorem dX12_readsSingle_63 : decode cX12_readsSingle 63 = .ok (.lconst 0, 1) := by decide +kernel
theorem dX12_readsSingle_64 : decode cX12_readsSingle 64 = .ok (.lastore, 1) := by decide +kernel
theorem dX12_readsSingle_65 : decode cX12_readsSingle 65 = .ok (.iinc 3 4, 3) := by decide +kernel
theorem dX12_readsSingle_68 : decode cX12_readsSingle 68 = .ok (.goto (-66), 3) := by decide +kernel
theorem dX12_readsSingle_71 : decode cX12_readsSingle 71 = .ok (.return_, 1) := by decide +kernel
theorem dX12_readsOne_0 : decode cX12_readsOne 0 = .ok (.iconst 0, 1) := by decide +kernel
theorem dX12_readsOne_1 : decode cX12_readsOne 1 = .ok (.istore_n 3, 1) := by decide +kernel
theorem dX12_readsOne_2 : decode cX12_readsOne 2 = .ok (.iload_n 3, 1) := by decide +kernel
theorem dX12_readsOne_3 : decode cX12_readsOne 3 = .ok (.bipush 8, 2) := by decide +kernel
theorem dX12_readsOne_5 : decode cX12_readsOne 5 = .ok (.if_icmp .ge 93, 3) := by decide +kernel
theorem dX12_readsOne_8 : decode cX12_readsOne 8 = .ok (.aload_n 0, 1) := by decide +kernel
theorem dX12_readsOne_9 : decode cX12_readsOne 9 = .ok (.getfield 44, 3) := by decide +kernel
theorem dX12_readsOne_12 : decode cX12_readsOne 12 = .ok (.iload_n 3, 1) := by decide +kernel
theorem dX12_readsOne_13 : decode cX12_readsOne 13 = .ok (.aload_n 0, 1) := by decide +kernel
theorem dX12_readsOne_14 : decode cX12_readsOne 14 = .ok (.aload_n 0, 1) := by decide +kernel
theorem dX12_readsOne_15 : decode cX12_readsOne 15 = .ok (.getfield 41, 3) := by decide +kernel
theorem dX12_readsOne_18 : decode cX12_readsOne 18 = .ok (.iload_n 3, 1) := by decide +kernel
theorem dX12_readsOne_19 : decode cX12_readsOne 19 = .ok (.laload, 1) := by decide +kernel
theorem dX12_readsOne_20 : decode cX12_readsOne 20 = .ok (.lload_n 1, 1) := by decide +kernel
theorem dX12_readsOne_21 : decode cX12_readsOne 21 = .ok (.aload_n 0, 1) := by decide +kernel
theorem dX12_readsOne_22 : decode cX12_readsOne 22 = .ok (.getfield 41, 3) := by decide +kernel
theorem dX12_readsOne_25 : decode cX12_readsOne 25 = .ok (.iload_n 3, 1) := by decide +kernel
theorem dX12_readsOne_26 : decode cX12_readsOne 26 = .ok (.iconst 2, 1) := by decide +kernel
theorem dX12_readsOne_27 : decode cX12_readsOne 27 = .ok (.iadd, 1) := by decide +kernel
theorem dX12_readsOne_28 : decode cX12_readsOne 28 = .ok (.laload, 1) := by decide +kernel
theorem dX12_readsOne_29 : decode cX12_readsOne 29 = .ok (.invokevirtual 204, 3) := by decide +kernel
theorem dX12_readsOne_32 : decode cX12_readsOne 32 = .ok (.lastore, 1) := by decide +kernel
theorem dX12_readsOne_33 : decode cX12_readsOne 33 = .ok (.aload_n 0, 1) := by decide +kernel
theorem dX12_readsOne_34 : decode cX12_readsOne 34 = .ok (.getfield 44, 3) := by decide +kernel
theorem dX12_readsOne_37 : decode cX12_readsOne 37 = .ok (.iload_n 3, 1) := by decide +kernel
theorem dX12_readsOne_38 : decode cX12_readsOne 38 = .ok (.iconst 1, 1) := by decide +kernel
theorem dX12_readsOne_39 : decode cX12_readsOne 39 = .ok (.iadd, 1) := by decide +kernel
theorem dX12_readsOne_40 : decode cX12_readsOne 40 = .ok (.aload_n 0, 1) := by decide +kernel
theorem dX12_readsOne_41 : decode cX12_readsOne 41 = .ok (.aload_n 0, 1) := by decide +kernel
theorem dX12_readsOne_42 : decode cX12_readsOne 42 = .ok (.getfield 41, 3) := by decide +kernel
theorem dX12_readsOne_45 : decode cX12_readsOne 45 = .ok (.iload_n 3, 1) := by decide +kernel
theorem dX12_readsOne_46 : decode cX12_readsOne 46 = .ok (.iconst 1, 1) := by decide +kernel
theorem dX12_readsOne_47 : decode cX12_readsOne 47 = .ok (.iadd, 1) := by decide +kernel
theorem dX12_readsOne_48 : decode cX12_readsOne 48 = .ok (.laload, 1) := by decide +kernel
theorem dX12_readsOne_49 : decode cX12_readsOne 49 = .ok (.lload_n 1, 1) := by decide +kernel
theorem dX12_readsOne_50 : decode cX12_readsOne 50 = .ok (.aload_n 0, 1) := by decide +kernel
theorem dX12_readsOne_51 : decode cX12_readsOne 51 = .ok (.getfield 41, 3) := by decide +kernel
theorem dX12_readsOne_54 : decode cX12_readsOne 54 = .ok (.iload_n 3, 1) := by decide +kernel
theorem dX12_readsOne_55 : decode cX12_readsOne 55 = .ok (.iconst 3, 1) := by decide +kernel
theorem dX12_readsOne_56 : decode cX12_readsOne 56 = .ok (.iadd, 1) := by decide +kernel
theorem dX12_readsOne_57 : decode cX12_readsOne 57 = .ok (.laload, 1) := by decide +kernel
theorem dX12_readsOne_58 : decode cX12_readsOne 58 = .ok (.invokevirtual 204, 3) := by decide +kernel
theorem dX12_readsOne_61 : decode cX12_readsOne 61 = .ok (.lastore, 1) := by decide +kernel
theorem dX12_readsOne_62 : decode cX12_readsOne 62 = .ok (.aload_n 0, 1) := by decide +kernel
theorem dX12_readsOne_63 : decode cX12_readsOne 63 = .ok (.getfield 44, 3) := by decide +kernel
theorem dX12_readsOne_66 : decode cX12_readsOne 66 = .ok (.iload_n 3, 1) := by decide +kernel
theorem dX12_readsOne_67 : decode cX12_readsOne 67 = .ok (.iconst 2, 1) := by decide +kernel
theorem dX12_readsOne_68 : decode cX12_readsOne 68 = .ok (.iadd, 1) := by decide +kernel
theorem dX12_readsOne_69 : decode cX12_readsOne 69 = .ok (.aload_n 0, 1) := by decide +kernel
theorem dX12_readsOne_70 : decode cX12_readsOne 70 = .ok (.getfield 41, 3) := by decide +kernel
theorem dX12_readsOne_73 : decode cX12_readsOne 73 = .ok (.iload_n 3, 1) := by decide +kernel
theorem dX12_readsOne_74 : decode cX12_readsOne 74 = .ok (.laload, 1) := by decide +kernel
theorem dX12_readsOne_75 : decode cX12_readsOne 75 = .ok (.lastore, 1) := by decide +kernel
theorem dX12_readsOne_76 : decode cX12_readsOne 76 = .ok (.aload_n 0, 1) := by decide +kernel
theorem dX12_readsOne_77 : decode cX12_readsOne 77 = .ok (.getfield 44, 3) := by decide +kernel
theorem dX12_readsOne_80 : decode cX12_readsOne 80 = .ok (.iload_n 3, 1) := by decide +kernel
theorem dX12_readsOne_81 : decode cX12_readsOne 81 = .ok (.iconst 3, 1) := by decide +kernel
theorem dX12_readsOne_82 : decode cX12_readsOne 82 = .ok (.iadd, 1) := by decide +kernel
theorem dX12_readsOne_83 : decode cX12_readsOne 83 = .ok (.aload_n 0, 1) := by decide +kernel
theorem dX12_readsOne_84 : decode cX12_readsOne 84 = .ok (.getfield 41, 3) := by decide +kernel
theorem dX12_readsOne_87 : decode cX12_readsOne 87 = .ok (.iload_n 3, 1) := by decide +kernel
theorem dX12_readsOne_88 : decode cX12_readsOne 88 = .ok (.iconst 1, 1) := by decide +kernel
theorem dX12_readsOne_89 : decode cX12_readsOne 89 = .ok (.iadd, 1) := by decide +kernel
theorem dX12_readsOne_90 : decode cX12_readsOne 90 = .ok (.laload, 1) := by decide +kernel
theorem dX12_readsOne_91 : decode cX12_readsOne 91 = .ok (.lastore, 1) := by decide +kernel
theorem dX12_readsOne_92 : decode cX12_readsOne 92 = .ok (.iinc 3 4, 3) := by decide +kernel
theorem dX12_readsOne_95 : decode cX12_readsOne 95 = .ok (.goto (-93), 3) := by decide +kernel
theorem dX12_readsOne_98 : decode cX12_readsOne 98 = .ok (.return_, 1) := by decide +kernel
theorem dX12_readsOther_0 : decode cX12_readsOther 0 = .ok (.iconst 0, 1) := by decide +kernel
theorem dX12_readsOther_1 : decode cX12_readsOther 1 = .ok (.istore_n 3, 1) := by decide +kernel
theorem dX12_readsOther_2 : decode cX12_readsOther 2 = .ok (.iload_n 3, 1) := by decide +kernel
theorem dX12_readsOther_3 : decode cX12_readsOther 3 = .ok (.bipush 8, 2) := by decide +kernel
theorem dX12_readsOther_5 : decode cX12_readsOther 5 = .ok (.if_icmp .ge 93, 3) := by decide +kernel
theorem dX12_readsOther_8 : decode cX12_readsOther 8 = .ok (.aload_n 0, 1) := by decide +kernel
theorem dX12_readsOther_9 : decode cX12_readsOther 9 = .ok (.getfield 44, 3) := by decide +kernel
theorem dX12_readsOther_12 : decode cX12_readsOther 12 = .ok (.iload_n 3, 1) := by decide +kernel
theorem dX12_readsOther_13 : decode cX12_readsOther 13 = .ok (.aload_n 0, 1) := by decide +kernel
theorem dX12_readsOther_14 : decode cX12_readsOther 14 = .ok (.aload_n 0, 1) := by decide +kernel
theorem dX12_readsOther_15 : decode cX12_readsOther 15 = .ok (.getfield 41, 3) := by decide +kernel
theorem dX12_readsOther_18 : decode cX12_readsOther 18 = .ok (.iload_n 3, 1) := by decide +kernel
theorem dX12_readsOther_19 : decode cX12_readsOther 19 = .ok (.laload, 1) := by decide +kernel
theorem dX12_readsOther_20 : decode cX12_readsOther 20 = .ok (.lload_n 1, 1) := by decide +kernel
theorem dX12_readsOther_21 : decode cX12_readsOther 21 = .ok (.aload_n 0, 1) := by decide +kernel
theorem dX12_readsOther_22 : decode cX12_readsOther 22 = .ok (.getfield 41, 3) := by decide +kernel
theorem dX12_readsOther_25 : decode cX12_readsOther 25 = .ok (.iload_n 3, 1) := by decide +kernel
theorem dX12_readsOther_26 : decode cX12_readsOther 26 = .ok (.iconst 1, 1) := by decide +kernel
theorem dX12_readsOther_27 : decode cX12_readsOther 27 = .ok (.iadd, 1) := by decide +kernel
theorem dX12_readsOther_28 : decode cX12_readsOther 28 = .ok (.laload, 1) := by decide +kernel
theorem dX12_readsOther_29 : decode cX12_readsOther 29 = .ok (.invokevirtual 204, 3) := by decide +kernel
theorem dX12_readsOther_32 : decode cX12_readsOther 32 = .ok (.lastore, 1) := by decide +kernel
theorem dX12_readsOther_33 : decode cX12_readsOther 33 = .ok (.aload_n 0, 1) := by decide +kernel
theorem dX12_readsOther_34 : decode cX12_readsOther 34 = .ok (.getfield 44, 3) := by decide +kernel
theorem dX12_readsOther_37 : decode cX12_readsOther 37 = .ok (.iload_n 3, 1) := by decide +kernel
theorem dX12_readsOther_38 : decode cX12_readsOther 38 = .ok (.iconst 1, 1) := by decide +kernel
theorem dX12_readsOther_39 : decode cX12_readsOther 39 = .ok (.iadd, 1) := by decide +kernel
theorem dX12_readsOther_40 : decode cX12_readsOther 40 = .ok (.aload_n 0, 1) := by decide +kernel
theorem dX12_readsOther_41 : decode cX12_readsOther 41 = .ok (.getfield 41, 3) := by decide +kernel
theorem dX12_readsOther_44 : decode cX12_readsOther 44 = .ok (.iload_n 3, 1) := by decide +kernel
theorem dX12_readsOther_45 : decode cX12_readsOther 45 = .ok (.laload, 1) := by decide +kernel
theorem dX12_readsOther_46 : decode cX12_readsOther 46 = .ok (.lastore, 1) := by decide +kernel
theorem dX12_readsOther_47 : decode cX12_readsOther 47 = .ok (.aload_n 0, 1) := by decide +kernel
theorem dX12_readsOther_48 : decode cX12_readsOther 48 = .ok (.getfield 44, 3) := by decide +kernel
theorem dX12_readsOther_51 : decode cX12_readsOther 51 = .ok (.iload_n 3, 1) := by decide +kernel
theorem dX12_readsOther_52 : decode cX12_readsOther 52 = .ok (.iconst 2, 1) := by decide +kernel
theorem dX12_readsOther_53 : decode cX12_readsOther 53 = .ok (.iadd, 1) := by decide +kernel
theorem dX12_readsOther_54 : decode cX12_readsOther 54 = .ok (.aload_n 0, 1) := by decide +kernel
theorem dX12_readsOther_55 : decode cX12_readsOther 55 = .ok (.aload_n 0, 1) := by decide +kernel
theorem dX12_readsOther_56 : decode cX12_readsOther 56 = .ok (.getfield 41, 3) := by decide +kernel
theorem dX12_readsOther_59 : decode cX12_readsOther 59 = .ok (.iload_n 3, 1) := by decide +kernel
theorem dX12_readsOther_60 : decode cX12_readsOther 60 = .ok (.iconst 2, 1) := by decide +kernel
theorem dX12_readsOther_61 : decode cX12_readsOther 61 = .ok (.iadd, 1) := by decide +kernel
theorem dX12_readsOther_62 : decode cX12_readsOther 62 = .ok (.laload, 1) := by decide +kernel
theorem dX12_readsOther_63 : decode cX12_readsOther 63 = .ok (.lload_n 1, 1) := by decide +kernel
theorem dX12_readsOther_64 : decode cX12_readsOther 64 = .ok (.aload_n 0, 1) := by decide +kernel
theorem dX12_readsOther_65 : decode cX12_readsOther 65 = .ok (.getfield 41, 3) := by decide +kernel
theorem dX12_readsOther_68 : decode cX12_readsOther 68 = .ok (.iload_n 3, 1) := by decide +kernel
theorem dX12_readsOther_69 : decode cX12_readsOther 69 = .ok (.iconst 3, 1) := by decide +kernel
theorem dX12_readsOther_70 : decode cX12_readsOther 70 = .ok (.iadd, 1) := by decide +kernel
theorem dX12_readsOther_71 : decode cX12_readsOther 71 = .ok (.laload, 1) := by decide +kernel
theorem dX12_readsOther_72 : decode cX12_readsOther 72 = .ok (.invokevirtual 204, 3) := by decide +kernel
theorem dX12_readsOther_75 : decode cX12_readsOther 75 = .ok (.lastore, 1) := by decide +kernel
theorem dX12_readsOther_76 : decode cX12_readsOther 76 = .ok (.aload_n 0, 1) := by decide +kernel
theorem dX12_readsOther_77 : decode cX12_readsOther 77 = .ok (.getfield 44, 3) := by decide +kernel
theorem dX12_readsOther_80 : decode cX12_readsOther 80 = .ok (.iload_n 3, 1) := by decide +kernel
theorem dX12_readsOther_81 : decode cX12_readsOther 81 = .ok (.iconst 3, 1) := by decide +kernel
theorem dX12_readsOther_82 : decode cX12_readsOther 82 = .ok (.iadd, 1) := by decide +kernel
theorem dX12_readsOther_83 : decode cX12_readsOther 83 = .ok (.aload_n 0, 1) := by decide +kernel
theorem dX12_readsOther_84 : decode cX12_readsOther 84 = .ok (.getfield 41, 3) := by decide +kernel
theorem dX12_readsOther_87 : decode cX12_readsOther 87 = .ok (.iload_n 3, 1) := by decide +kernel
theorem dX12_readsOther_88 : decode cX12_readsOther 88 = .ok (.iconst 2, 1) := by decide +kernel
theorem dX12_readsOther_89 : decode cX12_readsOther 89 = .ok (.iadd, 1) := by decide +kernel
theorem dX12_readsOther_90 : decode cX12_readsOther 90 = .ok (.laload, 1) := by decide +kernel
theorem dX12_readsOther_91 : decode cX12_readsOther 91 = .ok (.lastore, 1) := by decide +kernel
theorem dX12_readsOther_92 : decode cX12_readsOther 92 = .ok (.iinc 3 4, 3) := by decide +kernel
theorem dX12_readsOther_95 : decode cX12_readsOther 95 = .ok (.goto (-93), 3) := by decide +kernel
theorem dX12_readsOther_98 : decode cX12_readsOther 98 = .ok (.return_, 1) := by decide +kernel
theorem dX12_endsOne_0 : decode cX12_endsOne 0 = .ok (.iconst 0, 1) := by decide +kernel
theorem dX12_endsOne_1 : decode cX12_endsOne 1 = .ok (.istore_n 1, 1) := by decide +kernel
theorem dX12_endsOne_2 : decode cX12_endsOne 2 = .ok (.iload_n 1, 1) := by decide +kernel
theorem dX12_endsOne_3 : decode cX12_endsOne 3 = .ok (.bipush 8, 2) := by decide +kernel
theorem dX12_endsOne_5 : decode cX12_endsOne 5 = .ok (.if_icmp .ge 63, 3) := by decide +kernel
theorem dX12_endsOne_8 : decode cX12_endsOne 8 = .ok (.aload_n 0, 1) := by decide +kernel
theorem dX12_endsOne_9 : decode cX12_endsOne 9 = .ok (.getfield 155, 3) := by decide +kernel
theorem dX12_endsOne_12 : decode cX12_endsOne 12 = .ok (.ifCond .eq 36, 3) := by decide +kernel
theorem dX12_endsOne_15 : decode cX12_endsOne 15 = .ok (.aload_n 0, 1) := by decide +kernel
theorem dX12_endsOne_16 : decode cX12_endsOne 16 = .ok (.getfield 41, 3) := by decide +kernel
theorem dX12_endsOne_19 : decode cX12_endsOne 19 = .ok (.iload_n 1, 1) := by decide +kernel
theorem dX12_endsOne_20 : decode cX12_endsOne 20 = .ok (.iconst 2, 1) := by decide +kernel
theorem dX12_endsOne_21 : decode cX12_endsOne 21 = .ok (.iadd, 1) := by decide +kernel
theorem dX12_endsOne_22 : decode cX12_endsOne 22 = .ok (.aload_n 0, 1) := by decide +kernel
theorem dX12_endsOne_23 : decode cX12_endsOne 23 = .ok (.getfield 41, 3) := by decide +kernel
theorem dX12_endsOne_26 : decode cX12_endsOne 26 = .ok (.iload_n 1, 1) := by decide +kernel
theorem dX12_endsOne_27 : decode cX12_endsOne 27 = .ok (.laload, 1) := by decide +kernel
theorem dX12_endsOne_28 : decode cX12_endsOne 28 = .ok (.lastore, 1) := by decide +kernel
theorem dX12_endsOne_29 : decode cX12_endsOne 29 = .ok (.aload_n 0, 1) := by decide +kernel
theorem dX12_endsOne_30 : decode cX12_endsOne 30 = .ok (.getfield 41, 3) := by decide +kernel
theorem dX12_endsOne_33 : decode cX12_endsOne 33 = .ok (.iload_n 1, 1) := by decide +kernel
theorem dX12_endsOne_34 : decode cX12_endsOne 34 = .ok (.iconst 3, 1) := by decide +kernel
theorem dX12_endsOne_35 : decode cX12_endsOne 35 = .ok (.iadd, 1) := by decide +kernel
theorem dX12_endsOne_36 : decode cX12_endsOne 36 = .ok (.aload_n 0, 1) := by decide +kernel
theorem dX12_endsOne_37 : decode cX12_endsOne 37 = .ok (.getfield 41, 3) := by decide +kernel
theorem dX12_endsOne_40 : decode cX12_endsOne 40 = .ok (.iload_n 1, 1) := by decide +kernel
theorem dX12_endsOne_41 : decode cX12_endsOne 41 = .ok (.iconst 1, 1) := by decide +kernel
theorem dX12_endsOne_42 : decode cX12_endsOne 42 = .ok (.iadd, 1) := by decide +kernel
theorem dX12_endsOne_43 : decode cX12_endsOne 43 = .ok (.laload, 1) := by decide +kernel
theorem dX12_endsOne_44 : decode cX12_endsOne 44 = .ok (.lastore, 1) := by decide +kernel
theorem dX12_endsOne_45 : decode cX12_endsOne 45 = .ok (.goto 17, 3) := by decide +kernel
theorem dX12_endsOne_48 : decode cX12_endsOne 48 = .ok (.aload_n 0, 1) := by decide +kernel
theorem dX12_endsOne_49 : decode cX12_endsOne 49 = .ok (.getfield 41, 3) := by decide +kernel
theorem dX12_endsOne_52 : decode cX12_endsOne 52 = .ok (.iload_n 1, 1) := by decide +kernel
theorem dX12_endsOne_53 : decode cX12_endsOne 53 = .ok (.iconst 1, 1) := by decide +kernel
theorem dX12_endsOne_54 : decode cX12_endsOne 54 = .ok (.iadd, 1) := by decide +kernel
theorem dX12_endsOne_55 : decode cX12_endsOne 55 = .ok (.aload_n 0, 1) := by decide +kernel
theorem dX12_endsOne_56 : decode cX12_endsOne 56 = .ok (.getfield 41, 3) := by decide +kernel
theorem dX12_endsOne_59 : decode cX12_endsOne 59 = .ok (.iload_n 1, 1) := by decide +kernel
theorem dX12_endsOne_60 : decode cX12_endsOne 60 = .ok (.laload, 1) := by decide +kernel
theorem dX12_endsOne_61 : decode cX12_endsOne 61 = .ok (.lastore, 1) := by decide +kernel
theorem dX12_endsOne_62 : decode cX12_endsOne 62 = .ok (.iinc 1 4, 3) := by decide +kernel
theorem dX12_endsOne_65 : decode cX12_endsOne 65 = .ok (.goto (-63), 3) := by decide +kernel
theorem dX12_endsOne_68 : decode cX12_endsOne 68 = .ok (.aload_n 0, 1) := by decide +kernel
theorem dX12_endsOne_69 : decode cX12_endsOne 69 = .ok (.iconst 1, 1) := by decide +kernel
theorem dX12_endsOne_70 : decode cX12_endsOne 70 = .ok (.putfield 158, 3) := by decide +kernel
theorem dX12_endsOne_73 : decode cX12_endsOne 73 = .ok (.return_, 1) := by decide +kernel
theorem dX12_endsOther_0 : decode cX12_endsOther 0 = .ok (.iconst 0, 1) := by decide +kernel
theorem dX12_endsOther_1 : decode cX12_endsOther 1 = .ok (.istore_n 1, 1) := by decide +kernel
theorem dX12_endsOther_2 : decode cX12_endsOther 2 = .ok (.iload_n 1, 1) := by decide +kernel
theorem dX12_endsOther_3 : decode cX12_endsOther 3 = .ok (.bipush 8, 2) := by decide +kernel
theorem dX12_endsOther_5 : decode cX12_endsOther 5 = .ok (.if_icmp .ge 39, 3) := by decide +kernel
theorem dX12_endsOther_8 : decode cX12_endsOther 8 = .ok (.aload_n 0, 1) := by decide +kernel
theorem dX12_endsOther_9 : decode cX12_endsOther 9 = .ok (.getfield 41, 3) := by decide +kernel
theorem dX12_endsOther_12 : decode cX12_endsOther 12 = .ok (.iload_n 1, 1) := by decide +kernel
theorem dX12_endsOther_13 : decode cX12_endsOther 13 = .ok (.iconst 1, 1) := by decide +kernel
theorem dX12_endsOther_14 : decode cX12_endsOther 14 = .ok (.iadd, 1) := by decide +kernel
theorem dX12_endsOther_15 : decode cX12_endsOther 15 = .ok (.aload_n 0, 1) := by decide +kernel
theorem dX12_endsOther_16 : decode cX12_endsOther 16 = .ok (.getfield 41, 3) := by decide +kernel
theorem dX12_endsOther_19 : decode cX12_endsOther 19 = .ok (.iload_n 1, 1) := by decide +kernel
theorem dX12_endsOther_20 : decode cX12_endsOther 20 = .ok (.laload, 1) := by decide +kernel
theorem dX12_endsOther_21 : decode cX12_endsOther 21 = .ok (.lastore, 1) := by decide +kernel
theorem dX12_endsOther_22 : decode cX12_endsOther 22 = .ok (.aload_n 0, 1) := by decide +kernel
theorem dX12_endsOther_23 : decode cX12_endsOther 23 = .ok (.getfield 41, 3) := by decide +kernel
theorem dX12_endsOther_26 : decode cX12_endsOther 26 = .ok (.iload_n 1, 1) := by decide +kernel
theorem dX12_endsOther_27 : decode cX12_endsOther 27 = .ok (.iconst 3, 1) := by decide +kernel
theorem dX12_endsOther_28 : decode cX12_endsOther 28 = .ok (.iadd, 1) := by decide +kernel
theorem dX12_endsOther_29 : decode cX12_endsOther 29 = .ok (.aload_n 0, 1) := by decide +kernel
theorem dX12_endsOther_30 : decode cX12_endsOther 30 = .ok (.getfield 41, 3) := by decide +kernel
theorem dX12_endsOther_33 : decode cX12_endsOther 33 = .ok (.iload_n 1, 1) := by decide +kernel
theorem dX12_endsOther_34 : decode cX12_endsOther 34 = .ok (.iconst 2, 1) := by decide +kernel
theorem dX12_endsOther_35 : decode cX12_endsOther 35 = .ok (.iadd, 1) := by decide +kernel
theorem dX12_endsOther_36 : decode cX12_endsOther 36 = .ok (.laload, 1) := by decide +kernel
theorem dX12_endsOther_37 : decode cX12_endsOther 37 = .ok (.lastore, 1) := by decide +kernel
theorem dX12_endsOther_38 : decode cX12_endsOther 38 = .ok (.iinc 1 4, 3) := by decide +kernel
theorem dX12_endsOther_41 : decode cX12_endsOther 41 = .ok (.goto (-39), 3) := by decide +kernel
theorem dX12_endsOther_44 : decode cX12_endsOther 44 = .ok (.aload_n 0, 1) := by decide +kernel
theorem dX12_endsOther_45 : decode cX12_endsOther 45 = .ok (.iconst 1, 1) := by decide +kernel
theorem dX12_endsOther_46 : decode cX12_endsOther 46 = .ok (.putfield 161, 3) := by decide +kernel
theorem dX12_endsOther_49 : decode cX12_endsOther 49 = .ok (.return_, 1) := by decide +kernel
theorem dX12_turns_0 : decode cX12_turns 0 = .ok (.aload_n 0, 1) := by decide +kernel
theorem dX12_turns_1 : decode cX12_turns 1 = .ok (.getfield 164, 3) := by decide +kernel
theorem dX12_turns_4 : decode cX12_turns 4 = .ok (.istore_n 1, 1) := by decide +kernel
theorem dX12_turns_5 : decode cX12_turns 5 = .ok (.aload_n 0, 1) := by decide +kernel
theorem dX12_turns_6 : decode cX12_turns 6 = .ok (.iload_n 1, 1) := by decide +kernel
theorem dX12_turns_7 : decode cX12_turns 7 = .ok (.ifCond .eq 10, 3) := by decide +kernel
theorem dX12_turns_10 : decode cX12_turns 10 = .ok (.aload_n 0, 1) := by decide +kernel
theorem dX12_turns_11 : decode cX12_turns 11 = .ok (.getfield 158, 3) := by decide +kernel
theorem dX12_turns_14 : decode cX12_turns 14 = .ok (.goto 15, 3) := by decide +kernel
theorem dX12_turns_17 : decode cX12_turns 17 = .ok (.aload_n 0, 1) := by decide +kernel
theorem dX12_turns_18 : decode cX12_turns 18 = .ok (.getfield 161, 3) := by decide +kernel
theorem dX12_turns_21 : decode cX12_turns 21 = .ok (.ifCond .ne 7, 3) := by decide +kernel
theorem dX12_turns_24 : decode cX12_turns 24 = .ok (.iconst 1, 1) := by decide +kernel
theorem dX12_turns_25 : decode cX12_turns 25 = .ok (.goto 4, 3) := by decide +kernel
theorem dX12_turns_28 : decode cX12_turns 28 = .ok (.iconst 0, 1) := by decide +kernel
theorem dX12_turns_29 : decode cX12_turns 29 = .ok (.putfield 164, 3) := by decide +kernel
theorem dX12_turns_32 : decode cX12_turns 32 = .ok (.return_, 1) := by decide +kernel
theorem dX12_reads_0 : decode cX12_reads 0 = .ok (.aload_n 0, 1) := by decide +kernel
theorem dX12_reads_1 : decode cX12_reads 1 = .ok (.getfield 173, 3) := by decide +kernel
theorem dX12_reads_4 : decode cX12_reads 4 = .ok (.bipush 100, 2) := by decide +kernel
theorem dX12_reads_6 : decode cX12_reads 6 = .ok (.if_icmp .ne 5, 3) := by decide +kernel
theorem dX12_reads_9 : decode cX12_reads 9 = .ok (.iconst 3, 1) := by decide +kernel
theorem dX12_reads_10 : decode cX12_reads 10 = .ok (.ireturn, 1) := by decide +kernel
theorem dX12_reads_11 : decode cX12_reads 11 = .ok (.aload_n 0, 1) := by decide +kernel
theorem dX12_reads_12 : decode cX12_reads 12 = .ok (.getfield 164, 3) := by decide +kernel
theorem dX12_reads_15 : decode cX12_reads 15 = .ok (.ifCond .eq 10, 3) := by decide +kernel
theorem dX12_reads_18 : decode cX12_reads 18 = .ok (.aload_n 0, 1) := by decide +kernel
theorem dX12_reads_19 : decode cX12_reads 19 = .ok (.getfield 152, 3) := by decide +kernel
theorem dX12_reads_22 : decode cX12_reads 22 = .ok (.goto 7, 3) := by decide +kernel
theorem dX12_reads_25 : decode cX12_reads 25 = .ok (.aload_n 0, 1) := by decide +kernel
theorem dX12_reads_26 : decode cX12_reads 26 = .ok (.getfield 149, 3) := by decide +kernel
theorem dX12_reads_29 : decode cX12_reads 29 = .ok (.istore_n 1, 1) := by decide +kernel
theorem dX12_reads_30 : decode cX12_reads 30 = .ok (.aload_n 0, 1) := by decide +kernel
theorem dX12_reads_31 : decode cX12_reads 31 = .ok (.getfield 164, 3) := by decide +kernel
theorem dX12_reads_34 : decode cX12_reads 34 = .ok (.ifCond .eq 10, 3) := by decide +kernel
theorem dX12_reads_37 : decode cX12_reads 37 = .ok (.aload_n 0, 1) := by decide +kernel
theorem dX12_reads_38 : decode cX12_reads 38 = .ok (.getfield 170, 3) := by decide +kernel
theorem dX12_reads_41 : decode cX12_reads 41 = .ok (.goto 7, 3) := by decide +kernel
theorem dX12_reads_44 : decode cX12_reads 44 = .ok (.aload_n 0, 1) := by decide +kernel
theorem dX12_reads_45 : decode cX12_reads 45 = .ok (.getfield 167, 3) := by decide +kernel
theorem dX12_reads_48 : decode cX12_reads 48 = .ok (.istore_n 2, 1) := by decide +kernel
theorem dX12_reads_49 : decode cX12_reads 49 = .ok (.iload_n 2, 1) := by decide +kernel
theorem dX12_reads_50 : decode cX12_reads 50 = .ok (.aload_n 0, 1) := by decide +kernel
theorem dX12_reads_51 : decode cX12_reads 51 = .ok (.getfield 19, 3) := by decide +kernel
theorem dX12_reads_54 : decode cX12_reads 54 = .ok (.iload_n 1, 1) := by decide +kernel
theorem dX12_reads_55 : decode cX12_reads 55 = .ok (.iaload, 1) := by decide +kernel
theorem dX12_reads_56 : decode cX12_reads 56 = .ok (.if_icmp .ne 39, 3) := by decide +kernel
theorem dX12_reads_59 : decode cX12_reads 59 = .ok (.aload_n 0, 1) := by decide +kernel
theorem dX12_reads_60 : decode cX12_reads 60 = .ok (.getfield 22, 3) := by decide +kernel
theorem dX12_reads_63 : decode cX12_reads 63 = .ok (.iload_n 1, 1) := by decide +kernel
theorem dX12_reads_64 : decode cX12_reads 64 = .ok (.iaload, 1) := by decide +kernel
theorem dX12_reads_65 : decode cX12_reads 65 = .ok (.iconst 1, 1) := by decide +kernel
theorem dX12_reads_66 : decode cX12_reads 66 = .ok (.if_icmp .eq 5, 3) := by decide +kernel
theorem dX12_reads_69 : decode cX12_reads 69 = .ok (.iconst 3, 1) := by decide +kernel
theorem dX12_reads_70 : decode cX12_reads 70 = .ok (.ireturn, 1) := by decide +kernel
theorem dX12_reads_71 : decode cX12_reads 71 = .ok (.aload_n 0, 1) := by decide +kernel
theorem dX12_reads_72 : decode cX12_reads 72 = .ok (.getfield 164, 3) := by decide +kernel
theorem dX12_reads_75 : decode cX12_reads 75 = .ok (.ifCond .eq 10, 3) := by decide +kernel
theorem dX12_reads_78 : decode cX12_reads 78 = .ok (.aload_n 0, 1) := by decide +kernel
theorem dX12_reads_79 : decode cX12_reads 79 = .ok (.invokevirtual 210, 3) := by decide +kernel
theorem dX12_reads_82 : decode cX12_reads 82 = .ok (.goto 7, 3) := by decide +kernel
theorem dX12_reads_85 : decode cX12_reads 85 = .ok (.aload_n 0, 1) := by decide +kernel
theorem dX12_reads_86 : decode cX12_reads 86 = .ok (.invokevirtual 213, 3) := by decide +kernel
theorem dX12_reads_89 : decode cX12_reads 89 = .ok (.aload_n 0, 1) := by decide +kernel
theorem dX12_reads_90 : decode cX12_reads 90 = .ok (.invokevirtual 216, 3) := by decide +kernel
theorem dX12_reads_93 : decode cX12_reads 93 = .ok (.iconst (-1), 1) := by decide +kernel
theorem dX12_reads_94 : decode cX12_reads 94 = .ok (.ireturn, 1) := by decide +kernel
theorem dX12_reads_95 : decode cX12_reads 95 = .ok (.aload_n 0, 1) := by decide +kernel
theorem dX12_reads_96 : decode cX12_reads 96 = .ok (.iconst 0, 1) := by decide +kernel
theorem dX12_reads_97 : decode cX12_reads 97 = .ok (.putfield 141, 3) := by decide +kernel
theorem dX12_reads_100 : decode cX12_reads 100 = .ok (.aload_n 0, 1) := by decide +kernel
theorem dX12_reads_101 : decode cX12_reads 101 = .ok (.iload_n 1, 1) := by decide +kernel
theorem dX12_reads_102 : decode cX12_reads 102 = .ok (.iload_n 2, 1) := by decide +kernel
theorem dX12_reads_103 : decode cX12_reads 103 = .ok (.invokevirtual 219, 3) := by decide +kernel
theorem dX12_reads_106 : decode cX12_reads 106 = .ok (.i2l, 1) := by decide +kernel
theorem dX12_reads_107 : decode cX12_reads 107 = .ok (.lstore_n 3, 1) := by decide +kernel
theorem dX12_reads_108 : decode cX12_reads 108 = .ok (.aload_n 0, 1) := by decide +kernel
theorem dX12_reads_109 : decode cX12_reads 109 = .ok (.getfield 155, 3) := by decide +kernel
theorem dX12_reads_112 : decode cX12_reads 112 = .ok (.ifCond .ne 11, 3) := by decide +kernel
theorem dX12_reads_115 : decode cX12_reads 115 = .ok (.aload_n 0, 1) := by decide +kernel
theorem dX12_reads_116 : decode cX12_reads 116 = .ok (.lload_n 3, 1) := by decide +kernel
theorem dX12_reads_117 : decode cX12_reads 117 = .ok (.invokevirtual 222, 3) := by decide +kernel
theorem dX12_reads_120 : decode cX12_reads 120 = .ok (.goto 23, 3) := by decide +kernel
theorem dX12_reads_123 : decode cX12_reads 123 = .ok (.aload_n 0, 1) := by decide +kernel
theorem dX12_reads_124 : decode cX12_reads 124 = .ok (.getfield 164, 3) := by decide +kernel
theorem dX12_reads_127 : decode cX12_reads 127 = .ok (.ifCond .eq 11, 3) := by decide +kernel
theorem dX12_reads_130 : decode cX12_reads 130 = .ok (.aload_n 0, 1) := by decide +kernel
theorem dX12_reads_131 : decode cX12_reads 131 = .ok (.lload_n 3, 1) := by decide +kernel
theorem dX12_reads_132 : decode cX12_reads 132 = .ok (.invokevirtual 226, 3) := by decide +kernel
theorem dX12_reads_135 : decode cX12_reads 135 = .ok (.goto 8, 3) := by decide +kernel
theorem dX12_reads_138 : decode cX12_reads 138 = .ok (.aload_n 0, 1) := by decide +kernel
theorem dX12_reads_139 : decode cX12_reads 139 = .ok (.lload_n 3, 1) := by decide +kernel
theorem dX12_reads_140 : decode cX12_reads 140 = .ok (.invokevirtual 229, 3) := by decide +kernel
theorem dX12_reads_143 : decode cX12_reads 143 = .ok (.aload_n 0, 1) := by decide +kernel
theorem dX12_reads_144 : decode cX12_reads 144 = .ok (.getfield 164, 3) := by decide +kernel
theorem dX12_reads_147 : decode cX12_reads 147 = .ok (.ifCond .eq 16, 3) := by decide +kernel
theorem dX12_reads_150 : decode cX12_reads 150 = .ok (.aload_n 0, 1) := by decide +kernel
theorem dX12_reads_151 : decode cX12_reads 151 = .ok (.dup, 1) := by decide +kernel
theorem dX12_reads_152 : decode cX12_reads 152 = .ok (.getfield 170, 3) := by decide +kernel
theorem dX12_reads_155 : decode cX12_reads 155 = .ok (.iconst 1, 1) := by decide +kernel
theorem dX12_reads_156 : decode cX12_reads 156 = .ok (.iadd, 1) := by decide +kernel
theorem dX12_reads_157 : decode cX12_reads 157 = .ok (.putfield 170, 3) := by decide +kernel
theorem dX12_reads_160 : decode cX12_reads 160 = .ok (.goto 13, 3) := by decide +kernel
theorem dX12_reads_163 : decode cX12_reads 163 = .ok (.aload_n 0, 1) := by decide +kernel
theorem dX12_reads_164 : decode cX12_reads 164 = .ok (.dup, 1) := by decide +kernel
theorem dX12_reads_165 : decode cX12_reads 165 = .ok (.getfield 167, 3) := by decide +kernel
theorem dX12_reads_168 : decode cX12_reads 168 = .ok (.iconst 1, 1) := by decide +kernel
theorem dX12_reads_169 : decode cX12_reads 169 = .ok (.iadd, 1) := by decide +kernel
theorem dX12_reads_170 : decode cX12_reads 170 = .ok (.putfield 167, 3) := by decide +kernel
theorem dX12_reads_173 : decode cX12_reads 173 = .ok (.aload_n 0, 1) := by decide +kernel
theorem dX12_reads_174 : decode cX12_reads 174 = .ok (.dup, 1) := by decide +kernel
theorem dX12_reads_175 : decode cX12_reads 175 = .ok (.getfield 173, 3) := by decide +kernel
theorem dX12_reads_178 : decode cX12_reads 178 = .ok (.iconst 1, 1) := by decide +kernel
theorem dX12_reads_179 : decode cX12_reads 179 = .ok (.iadd, 1) := by decide +kernel
theorem dX12_reads_180 : decode cX12_reads 180 = .ok (.putfield 173, 3) := by decide +kernel
theorem dX12_reads_183 : decode cX12_reads 183 = .ok (.aload_n 0, 1) := by decide +kernel
theorem dX12_reads_184 : decode cX12_reads 184 = .ok (.getfield 141, 3) := by decide +kernel
theorem dX12_reads_187 : decode cX12_reads 187 = .ok (.ifCond .eq 5, 3) := by decide +kernel
theorem dX12_reads_190 : decode cX12_reads 190 = .ok (.iconst 2, 1) := by decide +kernel
theorem dX12_reads_191 : decode cX12_reads 191 = .ok (.ireturn, 1) := by decide +kernel
theorem dX12_reads_192 : decode cX12_reads 192 = .ok (.aload_n 0, 1) := by decide +kernel
theorem dX12_reads_193 : decode cX12_reads 193 = .ok (.invokevirtual 207, 3) := by decide +kernel
theorem dX12_reads_196 : decode cX12_reads 196 = .ok (.aload_n 0, 1) := by decide +kernel
theorem dX12_reads_197 : decode cX12_reads 197 = .ok (.invokevirtual 216, 3) := by decide +kernel
theorem dX12_reads_200 : decode cX12_reads 200 = .ok (.iconst (-1), 1) := by decide +kernel
theorem dX12_reads_201 : decode cX12_reads 201 = .ok (.ireturn, 1) := by decide +kernel
theorem dX12_goesToNext_0 : decode cX12_goesToNext 0 = .ok (.aload_n 0, 1) := by decide +kernel
theorem dX12_goesToNext_1 : decode cX12_goesToNext 1 = .ok (.invokevirtual 232, 3) := by decide +kernel
theorem dX12_goesToNext_4 : decode cX12_goesToNext 4 = .ok (.ifCond .eq 5, 3) := by decide +kernel
theorem dX12_goesToNext_7 : decode cX12_goesToNext 7 = .ok (.iconst 1, 1) := by decide +kernel
theorem dX12_goesToNext_8 : decode cX12_goesToNext 8 = .ok (.ireturn, 1) := by decide +kernel
theorem dX12_goesToNext_9 : decode cX12_goesToNext 9 = .ok (.aload_n 0, 1) := by decide +kernel
theorem dX12_goesToNext_10 : decode cX12_goesToNext 10 = .ok (.invokevirtual 235, 3) := by decide +kernel
theorem dX12_goesToNext_13 : decode cX12_goesToNext 13 = .ok (.ifCond .eq 39, 3) := by decide +kernel
theorem dX12_goesToNext_16 : decode cX12_goesToNext 16 = .ok (.aload_n 0, 1) := by decide +kernel
theorem dX12_goesToNext_17 : decode cX12_goesToNext 17 = .ok (.aload_n 0, 1) := by decide +kernel
theorem dX12_goesToNext_18 : decode cX12_goesToNext 18 = .ok (.getfield 41, 3) := by decide +kernel
theorem dX12_goesToNext_21 : decode cX12_goesToNext 21 = .ok (.iconst 0, 1) := by decide +kernel
theorem dX12_goesToNext_22 : decode cX12_goesToNext 22 = .ok (.laload, 1) := by decide +kernel
theorem dX12_goesToNext_23 : decode cX12_goesToNext 23 = .ok (.aload_n 0, 1) := by decide +kernel
theorem dX12_goesToNext_24 : decode cX12_goesToNext 24 = .ok (.getfield 41, 3) := by decide +kernel
theorem dX12_goesToNext_27 : decode cX12_goesToNext 27 = .ok (.iconst 4, 1) := by decide +kernel
theorem dX12_goesToNext_28 : decode cX12_goesToNext 28 = .ok (.laload, 1) := by decide +kernel
theorem dX12_goesToNext_29 : decode cX12_goesToNext 29 = .ok (.invokestatic 103, 3) := by decide +kernel
theorem dX12_goesToNext_32 : decode cX12_goesToNext 32 = .ok (.putfield 238, 3) := by decide +kernel
theorem dX12_goesToNext_35 : decode cX12_goesToNext 35 = .ok (.aload_n 0, 1) := by decide +kernel
theorem dX12_goesToNext_36 : decode cX12_goesToNext 36 = .ok (.aload_n 0, 1) := by decide +kernel
theorem dX12_goesToNext_37 : decode cX12_goesToNext 37 = .ok (.getfield 238, 3) := by decide +kernel
theorem dX12_goesToNext_40 : decode cX12_goesToNext 40 = .ok (.invokevirtual 241, 3) := by decide +kernel
theorem dX12_goesToNext_43 : decode cX12_goesToNext 43 = .ok (.ifCond .eq 7, 3) := by decide +kernel
theorem dX12_goesToNext_46 : decode cX12_goesToNext 46 = .ok (.iconst (-1), 1) := by decide +kernel
theorem dX12_goesToNext_47 : decode cX12_goesToNext 47 = .ok (.goto 4, 3) := by decide +kernel
theorem dX12_goesToNext_50 : decode cX12_goesToNext 50 = .ok (.iconst 2, 1) := by decide +kernel
theorem dX12_goesToNext_51 : decode cX12_goesToNext 51 = .ok (.ireturn, 1) := by decide +kernel
theorem dX12_goesToNext_52 : decode cX12_goesToNext 52 = .ok (.aload_n 0, 1) := by decide +kernel
theorem dX12_goesToNext_53 : decode cX12_goesToNext 53 = .ok (.invokevirtual 245, 3) := by decide +kernel
theorem dX12_goesToNext_56 : decode cX12_goesToNext 56 = .ok (.istore_n 1, 1) := by decide +kernel
theorem dX12_goesToNext_57 : decode cX12_goesToNext 57 = .ok (.iload_n 1, 1) := by decide +kernel
theorem dX12_goesToNext_58 : decode cX12_goesToNext 58 = .ok (.iconst (-1), 1) := by decide +kernel
theorem dX12_goesToNext_59 : decode cX12_goesToNext 59 = .ok (.if_icmp .eq 5, 3) := by decide +kernel
theorem dX12_goesToNext_62 : decode cX12_goesToNext 62 = .ok (.iload_n 1, 1) := by decide +kernel
theorem dX12_goesToNext_63 : decode cX12_goesToNext 63 = .ok (.ireturn, 1) := by decide +kernel
theorem dX12_goesToNext_64 : decode cX12_goesToNext 64 = .ok (.goto (-64), 3) := by decide +kernel
theorem dX12_layMade_0 : decode cX12_layMade 0 = .ok (.aload_n 0, 1) := by decide +kernel
theorem dX12_layMade_1 : decode cX12_layMade 1 = .ok (.iload_n 1, 1) := by decide +kernel
theorem dX12_layMade_2 : decode cX12_layMade 2 = .ok (.iconst 0, 1) := by decide +kernel
theorem dX12_layMade_3 : decode cX12_layMade 3 = .ok (.invokevirtual 86, 3) := by decide +kernel
theorem dX12_layMade_6 : decode cX12_layMade 6 = .ok (.iconst 3, 1) := by decide +kernel
theorem dX12_layMade_7 : decode cX12_layMade 7 = .ok (.if_icmp .ne 40, 3) := by decide +kernel
theorem dX12_layMade_10 : decode cX12_layMade 10 = .ok (.aload_n 0, 1) := by decide +kernel
theorem dX12_layMade_11 : decode cX12_layMade 11 = .ok (.aload_n 0, 1) := by decide +kernel
theorem dX12_layMade_12 : decode cX12_layMade 12 = .ok (.iload_n 1, 1) := by decide +kernel
theorem dX12_layMade_13 : decode cX12_layMade 13 = .ok (.iconst 5, 1) := by decide +kernel
theorem dX12_layMade_14 : decode cX12_layMade 14 = .ok (.invokevirtual 86, 3) := by decide +kernel
theorem dX12_layMade_17 : decode cX12_layMade 17 = .ok (.aload_n 0, 1) := by decide +kernel
theorem dX12_layMade_18 : decode cX12_layMade 18 = .ok (.iload_n 1, 1) := by decide +kernel
theorem dX12_layMade_19 : decode cX12_layMade 19 = .ok (.iconst 1, 1) := by decide +kernel
theorem dX12_layMade_20 : decode cX12_layMade 20 = .ok (.invokevirtual 86, 3) := by decide +kernel
theorem dX12_layMade_23 : decode cX12_layMade 23 = .ok (.aload_n 0, 1) := by decide +kernel
theorem dX12_layMade_24 : decode cX12_layMade 24 = .ok (.iload_n 1, 1) := by decide +kernel
theorem dX12_layMade_25 : decode cX12_layMade 25 = .ok (.iconst 2, 1) := by decide +kernel
theorem dX12_layMade_26 : decode cX12_layMade 26 = .ok (.invokevirtual 86, 3) := by decide +kernel
theorem dX12_layMade_29 : decode cX12_layMade 29 = .ok (.aload_n 0, 1) := by decide +kernel
theorem dX12_layMade_30 : decode cX12_layMade 30 = .ok (.iload_n 1, 1) := by decide +kernel
theorem dX12_layMade_31 : decode cX12_layMade 31 = .ok (.iconst 3, 1) := by decide +kernel
theorem dX12_layMade_32 : decode cX12_layMade 32 = .ok (.invokevirtual 86, 3) := by decide +kernel
theorem dX12_layMade_35 : decode cX12_layMade 35 = .ok (.aload_n 0, 1) := by decide +kernel
theorem dX12_layMade_36 : decode cX12_layMade 36 = .ok (.iload_n 1, 1) := by decide +kernel
theorem dX12_layMade_37 : decode cX12_layMade 37 = .ok (.iconst 4, 1) := by decide +kernel
theorem dX12_layMade_38 : decode cX12_layMade 38 = .ok (.invokevirtual 86, 3) := by decide +kernel
theorem dX12_layMade_41 : decode cX12_layMade 41 = .ok (.invokevirtual 248, 3) := by decide +kernel
theorem dX12_layMade_44 : decode cX12_layMade 44 = .ok (.goto 26, 3) := by decide +kernel
theorem dX12_layMade_47 : decode cX12_layMade 47 = .ok (.aload_n 0, 1) := by decide +kernel
theorem dX12_layMade_48 : decode cX12_layMade 48 = .ok (.aload_n 0, 1) := by decide +kernel
theorem dX12_layMade_49 : decode cX12_layMade 49 = .ok (.iload_n 1, 1) := by decide +kernel
theorem dX12_layMade_50 : decode cX12_layMade 50 = .ok (.iconst 1, 1) := by decide +kernel
theorem dX12_layMade_51 : decode cX12_layMade 51 = .ok (.invokevirtual 86, 3) := by decide +kernel
theorem dX12_layMade_54 : decode cX12_layMade 54 = .ok (.aload_n 0, 1) := by decide +kernel
theorem dX12_layMade_55 : decode cX12_layMade 55 = .ok (.iload_n 1, 1) := by decide +kernel
theorem dX12_layMade_56 : decode cX12_layMade 56 = .ok (.iconst 5, 1) := by decide +kernel
theorem dX12_layMade_57 : decode cX12_layMade 57 = .ok (.invokevirtual 86, 3) := by decide +kernel
theorem dX12_layMade_60 : decode cX12_layMade 60 = .ok (.aload_n 0, 1) := by decide +kernel
theorem dX12_layMade_61 : decode cX12_layMade 61 = .ok (.iload_n 1, 1) := by decide +kernel
theorem dX12_layMade_62 : decode cX12_layMade 62 = .ok (.bipush 6, 2) := by decide +kernel
theorem dX12_layMade_64 : decode cX12_layMade 64 = .ok (.invokevirtual 86, 3) := by decide +kernel
theorem dX12_layMade_67 : decode cX12_layMade 67 = .ok (.invokevirtual 252, 3) := by decide +kernel
theorem dX12_layMade_70 : decode cX12_layMade 70 = .ok (.iconst 1, 1) := by decide +kernel
theorem dX12_layMade_71 : decode cX12_layMade 71 = .ok (.istore_n 2, 1) := by decide +kernel
theorem dX12_layMade_72 : decode cX12_layMade 72 = .ok (.aload_n 0, 1) := by decide +kernel
theorem dX12_layMade_73 : decode cX12_layMade 73 = .ok (.getfield 22, 3) := by decide +kernel
theorem dX12_layMade_76 : decode cX12_layMade 76 = .ok (.iload_n 1, 1) := by decide +kernel
theorem dX12_layMade_77 : decode cX12_layMade 77 = .ok (.iconst 0, 1) := by decide +kernel
theorem dX12_layMade_78 : decode cX12_layMade 78 = .ok (.iastore, 1) := by decide +kernel
theorem dX12_layMade_79 : decode cX12_layMade 79 = .ok (.iload_n 2, 1) := by decide +kernel
theorem dX12_layMade_80 : decode cX12_layMade 80 = .ok (.ifCond .eq 76, 3) := by decide +kernel
theorem dX12_layMade_83 : decode cX12_layMade 83 = .ok (.aload_n 0, 1) := by decide +kernel
theorem dX12_layMade_84 : decode cX12_layMade 84 = .ok (.invokevirtual 255, 3) := by decide +kernel
theorem dX12_layMade_87 : decode cX12_layMade 87 = .ok (.istore_n 3, 1) := by decide +kernel
theorem dX12_layMade_88 : decode cX12_layMade 88 = .ok (.iload_n 3, 1) := by decide +kernel
theorem dX12_layMade_89 : decode cX12_layMade 89 = .ok (.iconst (-1), 1) := by decide +kernel
theorem dX12_layMade_90 : decode cX12_layMade 90 = .ok (.if_icmp .eq 13, 3) := by decide +kernel
theorem dX12_layMade_93 : decode cX12_layMade 93 = .ok (.aload_n 0, 1) := by decide +kernel
theorem dX12_layMade_94 : decode cX12_layMade 94 = .ok (.getfield 22, 3) := by decide +kernel
theorem dX12_layMade_97 : decode cX12_layMade 97 = .ok (.iload_n 1, 1) := by decide +kernel
theorem dX12_layMade_98 : decode cX12_layMade 98 = .ok (.iload_n 3, 1) := by decide +kernel
theorem dX12_layMade_99 : decode cX12_layMade 99 = .ok (.iastore, 1) := by decide +kernel
theorem dX12_layMade_100 : decode cX12_layMade 100 = .ok (.goto 56, 3) := by decide +kernel
theorem dX12_layMade_103 : decode cX12_layMade 103 = .ok (.aload_n 0, 1) := by decide +kernel
theorem dX12_layMade_104 : decode cX12_layMade 104 = .ok (.getfield 28, 3) := by decide +kernel
theorem dX12_layMade_107 : decode cX12_layMade 107 = .ok (.bipush 60, 2) := by decide +kernel
theorem dX12_layMade_109 : decode cX12_layMade 109 = .ok (.iload_n 1, 1) := by decide +kernel
theorem dX12_layMade_110 : decode cX12_layMade 110 = .ok (.imul, 1) := by decide +kernel
theorem dX12_layMade_111 : decode cX12_layMade 111 = .ok (.aload_n 0, 1) := by decide +kernel
theorem dX12_layMade_112 : decode cX12_layMade 112 = .ok (.getfield 19, 3) := by decide +kernel
theorem dX12_layMade_115 : decode cX12_layMade 115 = .ok (.iload_n 1, 1) := by decide +kernel
theorem dX12_layMade_116 : decode cX12_layMade 116 = .ok (.iaload, 1) := by decide +kernel
theorem dX12_layMade_117 : decode cX12_layMade 117 = .ok (.iadd, 1) := by decide +kernel
theorem dX12_layMade_118 : decode cX12_layMade 118 = .ok (.aload_n 0, 1) := by decide +kernel
theorem dX12_layMade_119 : decode cX12_layMade 119 = .ok (.getfield 167, 3) := by decide +kernel
theorem dX12_layMade_122 : decode cX12_layMade 122 = .ok (.iastore, 1) := by decide +kernel
theorem dX12_layMade_123 : decode cX12_layMade 123 = .ok (.aload_n 0, 1) := by decide +kernel
theorem dX12_layMade_124 : decode cX12_layMade 124 = .ok (.getfield 31, 3) := by decide +kernel
theorem dX12_layMade_127 : decode cX12_layMade 127 = .ok (.bipush 60, 2) := by decide +kernel
theorem dX12_layMade_129 : decode cX12_layMade 129 = .ok (.iload_n 1, 1) := by decide +kernel
theorem dX12_layMade_130 : decode cX12_layMade 130 = .ok (.imul, 1) := by decide +kernel
theorem dX12_layMade_131 : decode cX12_layMade 131 = .ok (.aload_n 0, 1) := by decide +kernel
theorem dX12_layMade_132 : decode cX12_layMade 132 = .ok (.getfield 19, 3) := by decide +kernel
theorem dX12_layMade_135 : decode cX12_layMade 135 = .ok (.iload_n 1, 1) := by decide +kernel
theorem dX12_layMade_136 : decode cX12_layMade 136 = .ok (.iaload, 1) := by decide +kernel
theorem dX12_layMade_137 : decode cX12_layMade 137 = .ok (.iadd, 1) := by decide +kernel
theorem dX12_layMade_138 : decode cX12_layMade 138 = .ok (.aload_n 0, 1) := by decide +kernel
theorem dX12_layMade_139 : decode cX12_layMade 139 = .ok (.getfield 170, 3) := by decide +kernel
theorem dX12_layMade_142 : decode cX12_layMade 142 = .ok (.iastore, 1) := by decide +kernel
theorem dX12_layMade_143 : decode cX12_layMade 143 = .ok (.aload_n 0, 1) := by decide +kernel
theorem dX12_layMade_144 : decode cX12_layMade 144 = .ok (.iload_n 1, 1) := by decide +kernel
theorem dX12_layMade_145 : decode cX12_layMade 145 = .ok (.aload_n 0, 1) := by decide +kernel
theorem dX12_layMade_146 : decode cX12_layMade 146 = .ok (.getfield 238, 3) := by decide +kernel
theorem dX12_layMade_149 : decode cX12_layMade 149 = .ok (.invokevirtual 109, 3) := by decide +kernel
theorem dX12_layMade_152 : decode cX12_layMade 152 = .ok (.istore_n 2, 1) := by decide +kernel
theorem dX12_layMade_153 : decode cX12_layMade 153 = .ok (.goto (-74), 3) := by decide +kernel
theorem dX12_layMade_156 : decode cX12_layMade 156 = .ok (.aload_n 0, 1) := by decide +kernel
theorem dX12_layMade_157 : decode cX12_layMade 157 = .ok (.getfield 25, 3) := by decide +kernel
theorem dX12_layMade_160 : decode cX12_layMade 160 = .ok (.iload_n 1, 1) := by decide +kernel
theorem dX12_layMade_161 : decode cX12_layMade 161 = .ok (.aload_n 0, 1) := by decide +kernel
theorem dX12_layMade_162 : decode cX12_layMade 162 = .ok (.getfield 167, 3) := by decide +kernel
theorem dX12_layMade_165 : decode cX12_layMade 165 = .ok (.aload_n 0, 1) := by decide +kernel
theorem dX12_layMade_166 : decode cX12_layMade 166 = .ok (.getfield 170, 3) := by decide +kernel
theorem dX12_layMade_169 : decode cX12_layMade 169 = .ok (.iadd, 1) := by decide +kernel
theorem dX12_layMade_170 : decode cX12_layMade 170 = .ok (.iastore, 1) := by decide +kernel
theorem dX12_layMade_171 : decode cX12_layMade 171 = .ok (.return_, 1) := by decide +kernel
theorem dX12_keep_0 : decode cX12_keep 0 = .ok (.aload_n 0, 1) := by decide +kernel
theorem dX12_keep_1 : decode cX12_keep 1 = .ok (.getfield 258, 3) := by decide +kernel
theorem dX12_keep_4 : decode cX12_keep 4 = .ok (.bipush 16, 2) := by decide +kernel
theorem dX12_keep_6 : decode cX12_keep 6 = .ok (.if_icmp .ne 46, 3) := by decide +kernel
theorem dX12_keep_9 : decode cX12_keep 9 = .ok (.sipush 1090, 3) := by decide +kernel
theorem dX12_keep_12 : decode cX12_keep 12 = .ok (.istore_n 1, 1) := by decide +kernel
theorem dX12_keep_13 : decode cX12_keep 13 = .ok (.iload_n 1, 1) := by decide +kernel
theorem dX12_keep_14 : decode cX12_keep 14 = .ok (.sipush 17440, 3) := by decide +kernel
theorem dX12_keep_17 : decode cX12_keep 17 = .ok (.if_icmp .ge 25, 3) := by decide +kernel
theorem dX12_keep_20 : decode cX12_keep 20 = .ok (.aload_n 0, 1) := by decide +kernel
theorem dX12_keep_21 : decode cX12_keep 21 = .ok (.getfield 13, 3) := by decide +kernel
theorem dX12_keep_24 : decode cX12_keep 24 = .ok (.iload_n 1, 1) := by decide +kernel
theorem dX12_keep_25 : decode cX12_keep 25 = .ok (.sipush 1090, 3) := by decide +kernel
theorem dX12_keep_28 : decode cX12_keep 28 = .ok (.isub, 1) := by decide +kernel
theorem dX12_keep_29 : decode cX12_keep 29 = .ok (.aload_n 0, 1) := by decide +kernel
theorem dX12_keep_30 : decode cX12_keep 30 = .ok (.getfield 13, 3) := by decide +kernel
theorem dX12_keep_33 : decode cX12_keep 33 = .ok (.iload_n 1, 1) := by decide +kernel
theorem dX12_keep_34 : decode cX12_keep 34 = .ok (.iaload, 1) := by decide +kernel
theorem dX12_keep_35 : decode cX12_keep 35 = .ok (.iastore, 1) := by decide +kernel
theorem dX12_keep_36 : decode cX12_keep 36 = .ok (.iinc 1 1, 3) := by decide +kernel
theorem dX12_keep_39 : decode cX12_keep 39 = .ok (.goto (-26), 3) := by decide +kernel
theorem dX12_keep_42 : decode cX12_keep 42 = .ok (.aload_n 0, 1) := by decide +kernel
theorem dX12_keep_43 : decode cX12_keep 43 = .ok (.dup, 1) := by decide +kernel
theorem dX12_keep_44 : decode cX12_keep 44 = .ok (.getfield 258, 3) := by decide +kernel
theorem dX12_keep_47 : decode cX12_keep 47 = .ok (.iconst 1, 1) := by decide +kernel
theorem dX12_keep_48 : decode cX12_keep 48 = .ok (.isub, 1) := by decide +kernel
theorem dX12_keep_49 : decode cX12_keep 49 = .ok (.putfield 258, 3) := by decide +kernel
theorem dX12_keep_52 : decode cX12_keep 52 = .ok (.iconst 0, 1) := by decide +kernel
theorem dX12_keep_53 : decode cX12_keep 53 = .ok (.istore_n 1, 1) := by decide +kernel
theorem dX12_keep_54 : decode cX12_keep 54 = .ok (.iload_n 1, 1) := by decide +kernel
theorem dX12_keep_55 : decode cX12_keep 55 = .ok (.sipush 1090, 3) := by decide +kernel
theorem dX12_keep_58 : decode cX12_keep 58 = .ok (.if_icmp .ge 30, 3) := by decide +kernel
theorem dX12_keep_61 : decode cX12_keep 61 = .ok (.aload_n 0, 1) := by decide +kernel
theorem dX12_keep_62 : decode cX12_keep 62 = .ok (.getfield 13, 3) := by decide +kernel
theorem dX12_keep_65 : decode cX12_keep 65 = .ok (.sipush 1090, 3) := by decide +kernel
theorem dX12_keep_68 : decode cX12_keep 68 = .ok (.aload_n 0, 1) := by decide +kernel
theorem dX12_keep_69 : decode cX12_keep 69 = .ok (.getfield 258, 3) := by decide +kernel
theorem dX12_keep_72 : decode cX12_keep 72 = .ok (.imul, 1) := by decide +kernel
theorem dX12_keep_73 : decode cX12_keep 73 = .ok (.iload_n 1, 1) := by decide +kernel
theorem dX12_keep_74 : decode cX12_keep 74 = .ok (.iadd, 1) := by decide +kernel
theorem dX12_keep_75 : decode cX12_keep 75 = .ok (.aload_n 0, 1) := by decide +kernel
theorem dX12_keep_76 : decode cX12_keep 76 = .ok (.getfield 9, 3) := by decide +kernel
theorem dX12_keep_79 : decode cX12_keep 79 = .ok (.iload_n 1, 1) := by decide +kernel
theorem dX12_keep_80 : decode cX12_keep 80 = .ok (.iaload, 1) := by decide +kernel
theorem dX12_keep_81 : decode cX12_keep 81 = .ok (.iastore, 1) := by decide +kernel
theorem dX12_keep_82 : decode cX12_keep 82 = .ok (.iinc 1 1, 3) := by decide +kernel
theorem dX12_keep_85 : decode cX12_keep 85 = .ok (.goto (-31), 3) := by decide +kernel
theorem dX12_keep_88 : decode cX12_keep 88 = .ok (.aload_n 0, 1) := by decide +kernel
theorem dX12_keep_89 : decode cX12_keep 89 = .ok (.dup, 1) := by decide +kernel
theorem dX12_keep_90 : decode cX12_keep 90 = .ok (.getfield 258, 3) := by decide +kernel
theorem dX12_keep_93 : decode cX12_keep 93 = .ok (.iconst 1, 1) := by decide +kernel
theorem dX12_keep_94 : decode cX12_keep 94 = .ok (.iadd, 1) := by decide +kernel
theorem dX12_keep_95 : decode cX12_keep 95 = .ok (.putfield 258, 3) := by decide +kernel
theorem dX12_keep_98 : decode cX12_keep 98 = .ok (.return_, 1) := by decide +kernel
theorem dX12_undo_0 : decode cX12_undo 0 = .ok (.aload_n 0, 1) := by decide +kernel
theorem dX12_undo_1 : decode cX12_undo 1 = .ok (.iconst 0, 1) := by decide +kernel
theorem dX12_undo_2 : decode cX12_undo 2 = .ok (.putfield 73, 3) := by decide +kernel
theorem dX12_undo_5 : decode cX12_undo 5 = .ok (.aload_n 0, 1) := by decide +kernel
theorem dX12_undo_6 : decode cX12_undo 6 = .ok (.getfield 258, 3) := by decide +kernel
theorem dX12_undo_9 : decode cX12_undo 9 = .ok (.ifCond .ne 5, 3) := by decide +kernel
theorem dX12_undo_12 : decode cX12_undo 12 = .ok (.iconst (-1), 1) := by decide +kernel
theorem dX12_undo_13 : decode cX12_undo 13 = .ok (.ireturn, 1) := by decide +kernel
theorem dX12_undo_14 : decode cX12_undo 14 = .ok (.aload_n 0, 1) := by decide +kernel
theorem dX12_undo_15 : decode cX12_undo 15 = .ok (.dup, 1) := by decide +kernel
theorem dX12_undo_16 : decode cX12_undo 16 = .ok (.getfield 258, 3) := by decide +kernel
theorem dX12_undo_19 : decode cX12_undo 19 = .ok (.iconst 1, 1) := by decide +kernel
theorem dX12_undo_20 : decode cX12_undo 20 = .ok (.isub, 1) := by decide +kernel
theorem dX12_undo_21 : decode cX12_undo 21 = .ok (.putfield 258, 3) := by decide +kernel
theorem dX12_undo_24 : decode cX12_undo 24 = .ok (.iconst 0, 1) := by decide +kernel
theorem dX12_undo_25 : decode cX12_undo 25 = .ok (.istore_n 1, 1) := by decide +kernel
theorem dX12_undo_26 : decode cX12_undo 26 = .ok (.iload_n 1, 1) := by decide +kernel
theorem dX12_undo_27 : decode cX12_undo 27 = .ok (.sipush 1090, 3) := by decide +kernel
theorem dX12_undo_30 : decode cX12_undo 30 = .ok (.if_icmp .ge 30, 3) := by decide +kernel
theorem dX12_undo_33 : decode cX12_undo 33 = .ok (.aload_n 0, 1) := by decide +kernel
theorem dX12_undo_34 : decode cX12_undo 34 = .ok (.getfield 9, 3) := by decide +kernel
theorem dX12_undo_37 : decode cX12_undo 37 = .ok (.iload_n 1, 1) := by decide +kernel
theorem dX12_undo_38 : decode cX12_undo 38 = .ok (.aload_n 0, 1) := by decide +kernel
theorem dX12_undo_39 : decode cX12_undo 39 = .ok (.getfield 13, 3) := by decide +kernel
theorem dX12_undo_42 : decode cX12_undo 42 = .ok (.sipush 1090, 3) := by decide +kernel
theorem dX12_undo_45 : decode cX12_undo 45 = .ok (.aload_n 0, 1) := by decide +kernel
theorem dX12_undo_46 : decode cX12_undo 46 = .ok (.getfield 258, 3) := by decide +kernel
theorem dX12_undo_49 : decode cX12_undo 49 = .ok (.imul, 1) := by decide +kernel
theorem dX12_undo_50 : decode cX12_undo 50 = .ok (.iload_n 1, 1) := by decide +kernel
theorem dX12_undo_51 : decode cX12_undo 51 = .ok (.iadd, 1) := by decide +kernel
theorem dX12_undo_52 : decode cX12_undo 52 = .ok (.iaload, 1) := by decide +kernel
theorem dX12_undo_53 : decode cX12_undo 53 = .ok (.iastore, 1) := by decide +kernel
theorem dX12_undo_54 : decode cX12_undo 54 = .ok (.iinc 1 1, 3) := by decide +kernel
theorem dX12_undo_57 : decode cX12_undo 57 = .ok (.goto (-31), 3) := by decide +kernel
theorem dX12_undo_60 : decode cX12_undo 60 = .ok (.aload_n 0, 1) := by decide +kernel
theorem dX12_undo_61 : decode cX12_undo 61 = .ok (.invokevirtual 70, 3) := by decide +kernel
theorem dX12_undo_64 : decode cX12_undo 64 = .ok (.aload_n 0, 1) := by decide +kernel
theorem dX12_undo_65 : decode cX12_undo 65 = .ok (.getfield 258, 3) := by decide +kernel
theorem dX12_undo_68 : decode cX12_undo 68 = .ok (.ireturn, 1) := by decide +kernel
theorem dX12_become_0 : decode cX12_become 0 = .ok (.aload_n 0, 1) := by decide +kernel
theorem dX12_become_1 : decode cX12_become 1 = .ok (.invokevirtual 261, 3) := by decide +kernel
theorem dX12_become_4 : decode cX12_become 4 = .ok (.iconst 0, 1) := by decide +kernel
theorem dX12_become_5 : decode cX12_become 5 = .ok (.istore 7, 2) := by decide +kernel
theorem dX12_become_7 : decode cX12_become 7 = .ok (.iload 7, 2) := by decide +kernel
theorem dX12_become_9 : decode cX12_become 9 = .ok (.bipush 109, 2) := by decide +kernel
theorem dX12_become_11 : decode cX12_become 11 = .ok (.if_icmp .ge 17, 3) := by decide +kernel
theorem dX12_become_14 : decode cX12_become 14 = .ok (.aload_n 0, 1) := by decide +kernel
theorem dX12_become_15 : decode cX12_become 15 = .ok (.iload_n 1, 1) := by decide +kernel
theorem dX12_become_16 : decode cX12_become 16 = .ok (.iload 7, 2) := by decide +kernel
theorem dX12_become_18 : decode cX12_become 18 = .ok (.iconst 0, 1) := by decide +kernel
theorem dX12_become_19 : decode cX12_become 19 = .ok (.invokevirtual 66, 3) := by decide +kernel
theorem dX12_become_22 : decode cX12_become 22 = .ok (.iinc 7 1, 3) := by decide +kernel
theorem dX12_become_25 : decode cX12_become 25 = .ok (.goto (-18), 3) := by decide +kernel
theorem dX12_become_28 : decode cX12_become 28 = .ok (.aload_n 0, 1) := by decide +kernel
theorem dX12_become_29 : decode cX12_become 29 = .ok (.iload_n 1, 1) := by decide +kernel
theorem dX12_become_30 : decode cX12_become 30 = .ok (.iconst 0, 1) := by decide +kernel
theorem dX12_become_31 : decode cX12_become 31 = .ok (.iload_n 2, 1) := by decide +kernel
theorem dX12_become_32 : decode cX12_become 32 = .ok (.invokevirtual 66, 3) := by decide +kernel
theorem dX12_become_35 : decode cX12_become 35 = .ok (.aload_n 0, 1) := by decide +kernel
theorem dX12_become_36 : decode cX12_become 36 = .ok (.iload_n 1, 1) := by decide +kernel
theorem dX12_become_37 : decode cX12_become 37 = .ok (.iconst 1, 1) := by decide +kernel
theorem dX12_become_38 : decode cX12_become 38 = .ok (.iload_n 3, 1) := by decide +kernel
theorem dX12_become_39 : decode cX12_become 39 = .ok (.invokevirtual 66, 3) := by decide +kernel
theorem dX12_become_42 : decode cX12_become 42 = .ok (.aload_n 0, 1) := by decide +kernel
theorem dX12_become_43 : decode cX12_become 43 = .ok (.iload_n 1, 1) := by decide +kernel
theorem dX12_become_44 : decode cX12_become 44 = .ok (.iconst 2, 1) := by decide +kernel
theorem dX12_become_45 : decode cX12_become 45 = .ok (.iload 4, 2) := by decide +kernel
theorem dX12_become_47 : decode cX12_become 47 = .ok (.invokevirtual 66, 3) := by decide +kernel
theorem dX12_become_50 : decode cX12_become 50 = .ok (.aload_n 0, 1) := by decide +kernel
theorem dX12_become_51 : decode cX12_become 51 = .ok (.iload_n 1, 1) := by decide +kernel
theorem dX12_become_52 : decode cX12_become 52 = .ok (.iconst 3, 1) := by decide +kernel
theorem dX12_become_53 : decode cX12_become 53 = .ok (.iload 5, 2) := by decide +kernel
theorem dX12_become_55 : decode cX12_become 55 = .ok (.invokevirtual 66, 3) := by decide +kernel
theorem dX12_become_58 : decode cX12_become 58 = .ok (.aload_n 0, 1) := by decide +kernel
theorem dX12_become_59 : decode cX12_become 59 = .ok (.iload_n 1, 1) := by decide +kernel
theorem dX12_become_60 : decode cX12_become 60 = .ok (.iconst 4, 1) := by decide +kernel
theorem dX12_become_61 : decode cX12_become 61 = .ok (.iload 6, 2) := by decide +kernel
theorem dX12_become_63 : decode cX12_become 63 = .ok (.invokevirtual 66, 3) := by decide +kernel
theorem dX12_become_66 : decode cX12_become 66 = .ok (.return_, 1) := by decide +kernel
theorem dX12_fraction_0 : decode cX12_fraction 0 = .ok (.aload_n 0, 1) := by decide +kernel
theorem dX12_fraction_1 : decode cX12_fraction 1 = .ok (.iconst 0, 1) := by decide +kernel
theorem dX12_fraction_2 : decode cX12_fraction 2 = .ok (.putfield 73, 3) := by decide +kernel
theorem dX12_fraction_5 : decode cX12_fraction 5 = .ok (.iload_n 1, 1) := by decide +kernel
theorem dX12_fraction_6 : decode cX12_fraction 6 = .ok (.invokestatic 264, 3) := by decide +kernel
theorem dX12_fraction_9 : decode cX12_fraction 9 = .ok (.ifCond .eq 29, 3) := by decide +kernel
theorem dX12_fraction_12 : decode cX12_fraction 12 = .ok (.iload_n 2, 1) := by decide +kernel
theorem dX12_fraction_13 : decode cX12_fraction 13 = .ok (.i2l, 1) := by decide +kernel
theorem dX12_fraction_14 : decode cX12_fraction 14 = .ok (.ldc2_w 267, 3) := by decide +kernel
theorem dX12_fraction_17 : decode cX12_fraction 17 = .ok (.ldc2_w 269, 3) := by decide +kernel
theorem dX12_fraction_20 : decode cX12_fraction 20 = .ok (.invokestatic 78, 3) := by decide +kernel
theorem dX12_fraction_23 : decode cX12_fraction 23 = .ok (.ifCond .eq 15, 3) := by decide +kernel
theorem dX12_fraction_26 : decode cX12_fraction 26 = .ok (.iload_n 3, 1) := by decide +kernel
theorem dX12_fraction_27 : decode cX12_fraction 27 = .ok (.i2l, 1) := by decide +kernel
theorem dX12_fraction_28 : decode cX12_fraction 28 = .ok (.lconst 1, 1) := by decide +kernel
theorem dX12_fraction_29 : decode cX12_fraction 29 = .ok (.ldc2_w 269, 3) := by decide +kernel
theorem dX12_fraction_32 : decode cX12_fraction 32 = .ok (.invokestatic 78, 3) := by decide +kernel
theorem dX12_fraction_35 : decode cX12_fraction 35 = .ok (.ifCond .ne 5, 3) := by decide +kernel
theorem dX12_fraction_38 : decode cX12_fraction 38 = .ok (.iconst 0, 1) := by decide +kernel
theorem dX12_fraction_39 : decode cX12_fraction 39 = .ok (.ireturn, 1) := by decide +kernel
theorem dX12_fraction_40 : decode cX12_fraction 40 = .ok (.aload_n 0, 1) := by decide +kernel
theorem dX12_fraction_41 : decode cX12_fraction 41 = .ok (.iload_n 1, 1) := by decide +kernel
theorem dX12_fraction_42 : decode cX12_fraction 42 = .ok (.iconst 0, 1) := by decide +kernel
theorem dX12_fraction_43 : decode cX12_fraction 43 = .ok (.iload_n 2, 1) := by decide +kernel
theorem dX12_fraction_44 : decode cX12_fraction 44 = .ok (.iload_n 3, 1) := by decide +kernel
theorem dX12_fraction_45 : decode cX12_fraction 45 = .ok (.iconst 0, 1) := by decide +kernel
theorem dX12_fraction_46 : decode cX12_fraction 46 = .ok (.iconst 0, 1) := by decide +kernel
theorem dX12_fraction_47 : decode cX12_fraction 47 = .ok (.invokevirtual 271, 3) := by decide +kernel
theorem dX12_fraction_50 : decode cX12_fraction 50 = .ok (.aload_n 0, 1) := by decide +kernel
theorem dX12_fraction_51 : decode cX12_fraction 51 = .ok (.invokevirtual 70, 3) := by decide +kernel
theorem dX12_fraction_54 : decode cX12_fraction 54 = .ok (.iconst 1, 1) := by decide +kernel
theorem dX12_fraction_55 : decode cX12_fraction 55 = .ok (.ireturn, 1) := by decide +kernel
theorem dX12_root_0 : decode cX12_root 0 = .ok (.aload_n 0, 1) := by decide +kernel
theorem dX12_root_1 : decode cX12_root 1 = .ok (.iconst 0, 1) := by decide +kernel
theorem dX12_root_2 : decode cX12_root 2 = .ok (.putfield 73, 3) := by decide +kernel
theorem dX12_root_5 : decode cX12_root 5 = .ok (.iload_n 1, 1) := by decide +kernel
theorem dX12_root_6 : decode cX12_root 6 = .ok (.invokestatic 264, 3) := by decide +kernel
theorem dX12_root_9 : decode cX12_root 9 = .ok (.ifCond .eq 49, 3) := by decide +kernel
theorem dX12_root_12 : decode cX12_root 12 = .ok (.iload_n 2, 1) := by decide +kernel
theorem dX12_root_13 : decode cX12_root 13 = .ok (.i2l, 1) := by decide +kernel
theorem dX12_root_14 : decode cX12_root 14 = .ok (.ldc2_w 275, 3) := by decide +kernel
theorem dX12_root_17 : decode cX12_root 17 = .ok (.ldc2_w 277, 3) := by decide +kernel
theorem dX12_root_20 : decode cX12_root 20 = .ok (.invokestatic 78, 3) := by decide +kernel
theorem dX12_root_23 : decode cX12_root 23 = .ok (.ifCond .eq 35, 3) := by decide +kernel
theorem dX12_root_26 : decode cX12_root 26 = .ok (.iload_n 3, 1) := by decide +kernel
theorem dX12_root_27 : decode cX12_root 27 = .ok (.i2l, 1) := by decide +kernel
theorem dX12_root_28 : decode cX12_root 28 = .ok (.lconst 0, 1) := by decide +kernel
theorem dX12_root_29 : decode cX12_root 29 = .ok (.ldc2_w 269, 3) := by decide +kernel
theorem dX12_root_32 : decode cX12_root 32 = .ok (.invokestatic 78, 3) := by decide +kernel
theorem dX12_root_35 : decode cX12_root 35 = .ok (.ifCond .eq 23, 3) := by decide +kernel
theorem dX12_root_38 : decode cX12_root 38 = .ok (.iload 4, 2) := by decide +kernel
theorem dX12_root_40 : decode cX12_root 40 = .ok (.i2l, 1) := by decide +kernel
theorem dX12_root_41 : decode cX12_root 41 = .ok (.ldc2_w 279, 3) := by decide +kernel
theorem dX12_root_44 : decode cX12_root 44 = .ok (.ldc2_w 281, 3) := by decide +kernel
theorem dX12_root_47 : decode cX12_root 47 = .ok (.invokestatic 78, 3) := by decide +kernel
theorem dX12_root_50 : decode cX12_root 50 = .ok (.ifCond .eq 8, 3) := by decide +kernel
theorem dX12_root_53 : decode cX12_root 53 = .ok (.iload 4, 2) := by decide +kernel
theorem dX12_root_55 : decode cX12_root 55 = .ok (.ifCond .ne 5, 3) := by decide +kernel
theorem dX12_root_58 : decode cX12_root 58 = .ok (.iconst 0, 1) := by decide +kernel
theorem dX12_root_59 : decode cX12_root 59 = .ok (.ireturn, 1) := by decide +kernel
theorem dX12_root_60 : decode cX12_root 60 = .ok (.aload_n 0, 1) := by decide +kernel
theorem dX12_root_61 : decode cX12_root 61 = .ok (.iload_n 1, 1) := by decide +kernel
theorem dX12_root_62 : decode cX12_root 62 = .ok (.iconst 1, 1) := by decide +kernel
theorem dX12_root_63 : decode cX12_root 63 = .ok (.iload_n 2, 1) := by decide +kernel
theorem dX12_root_64 : decode cX12_root 64 = .ok (.iload_n 3, 1) := by decide +kernel
theorem dX12_root_65 : decode cX12_root 65 = .ok (.iload 4, 2) := by decide +kernel
theorem dX12_root_67 : decode cX12_root 67 = .ok (.iconst 0, 1) := by decide +kernel
theorem dX12_root_68 : decode cX12_root 68 = .ok (.invokevirtual 271, 3) := by decide +kernel
theorem dX12_root_71 : decode cX12_root 71 = .ok (.aload_n 0, 1) := by decide +kernel
theorem dX12_root_72 : decode cX12_root 72 = .ok (.invokevirtual 70, 3) := by decide +kernel
theorem dX12_root_75 : decode cX12_root 75 = .ok (.iconst 1, 1) := by decide +kernel
theorem dX12_root_76 : decode cX12_root 76 = .ok (.ireturn, 1) := by decide +kernel
theorem dX12_areSmall_0 : decode cX12_areSmall 0 = .ok (.iload_n 0, 1) := by decide +kernel
theorem dX12_areSmall_1 : decode cX12_areSmall 1 = .ok (.i2l, 1) := by decide +kernel
theorem dX12_areSmall_2 : decode cX12_areSmall 2 = .ok (.ldc2_w 275, 3) := by decide +kernel
theorem dX12_areSmall_5 : decode cX12_areSmall 5 = .ok (.ldc2_w 277, 3) := by decide +kernel
theorem dX12_areSmall_8 : decode cX12_areSmall 8 = .ok (.invokestatic 78, 3) := by decide +kernel
theorem dX12_areSmall_11 : decode cX12_areSmall 11 = .ok (.ifCond .eq 57, 3) := by decide +kernel
theorem dX12_areSmall_14 : decode cX12_areSmall 14 = .ok (.iload_n 1, 1) := by decide +kernel
theorem dX12_areSmall_15 : decode cX12_areSmall 15 = .ok (.i2l, 1) := by decide +kernel
theorem dX12_areSmall_16 : decode cX12_areSmall 16 = .ok (.ldc2_w 275, 3) := by decide +kernel
theorem dX12_areSmall_19 : decode cX12_areSmall 19 = .ok (.ldc2_w 277, 3) := by decide +kernel
theorem dX12_areSmall_22 : decode cX12_areSmall 22 = .ok (.invokestatic 78, 3) := by decide +kernel
theorem dX12_areSmall_25 : decode cX12_areSmall 25 = .ok (.ifCond .eq 43, 3) := by decide +kernel
theorem dX12_areSmall_28 : decode cX12_areSmall 28 = .ok (.iload_n 2, 1) := by decide +kernel
theorem dX12_areSmall_29 : decode cX12_areSmall 29 = .ok (.i2l, 1) := by decide +kernel
theorem dX12_areSmall_30 : decode cX12_areSmall 30 = .ok (.ldc2_w 275, 3) := by decide +kernel
theorem dX12_areSmall_33 : decode cX12_areSmall 33 = .ok (.ldc2_w 277, 3) := by decide +kernel
theorem dX12_areSmall_36 : decode cX12_areSmall 36 = .ok (.invokestatic 78, 3) := by decide +kernel
theorem dX12_areSmall_39 : decode cX12_areSmall 39 = .ok (.ifCond .eq 29, 3) := by decide +kernel
theorem dX12_areSmall_42 : decode cX12_areSmall 42 = .ok (.iload_n 3, 1) := by decide +kernel
theorem dX12_areSmall_43 : decode cX12_areSmall 43 = .ok (.i2l, 1) := by decide +kernel
theorem dX12_areSmall_44 : decode cX12_areSmall 44 = .ok (.ldc2_w 275, 3) := by decide +kernel
theorem dX12_areSmall_47 : decode cX12_areSmall 47 = .ok (.ldc2_w 277, 3) := by decide +kernel
theorem dX12_areSmall_50 : decode cX12_areSmall 50 = .ok (.invokestatic 78, 3) := by decide +kernel
theorem dX12_areSmall_53 : decode cX12_areSmall 53 = .ok (.ifCond .eq 15, 3) := by decide +kernel
theorem dX12_areSmall_56 : decode cX12_areSmall 56 = .ok (.iload_n 2, 1) := by decide +kernel
theorem dX12_areSmall_57 : decode cX12_areSmall 57 = .ok (.ifCond .ne 7, 3) := by decide +kernel
theorem dX12_areSmall_60 : decode cX12_areSmall 60 = .ok (.iload_n 3, 1) := by decide +kernel
theorem dX12_areSmall_61 : decode cX12_areSmall 61 = .ok (.ifCond .eq 7, 3) := by decide +kernel
theorem dX12_areSmall_64 : decode cX12_areSmall 64 = .ok (.iconst 1, 1) := by decide +kernel
theorem dX12_areSmall_65 : decode cX12_areSmall 65 = .ok (.goto 4, 3) := by decide +kernel
theorem dX12_areSmall_68 : decode cX12_areSmall 68 = .ok (.iconst 0, 1) := by decide +kernel
theorem dX12_areSmall_69 : decode cX12_areSmall 69 = .ok (.ireturn, 1) := by decide +kernel
theorem dX12_single_0 : decode cX12_single 0 = .ok (.aload_n 0, 1) := by decide +kernel
theorem dX12_single_1 : decode cX12_single 1 = .ok (.iconst 0, 1) := by decide +kernel
theorem dX12_single_2 : decode cX12_single 2 = .ok (.putfield 73, 3) := by decide +kernel
theorem dX12_single_5 : decode cX12_single 5 = .ok (.iload_n 1, 1) := by decide +kernel
theorem dX12_single_6 : decode cX12_single 6 = .ok (.invokestatic 264, 3) := by decide +kernel
theorem dX12_single_9 : decode cX12_single 9 = .ok (.ifCond .eq 29, 3) := by decide +kernel
theorem dX12_single_12 : decode cX12_single 12 = .ok (.iload_n 2, 1) := by decide +kernel
theorem dX12_single_13 : decode cX12_single 13 = .ok (.i2l, 1) := by decide +kernel
theorem dX12_single_14 : decode cX12_single 14 = .ok (.lconst 0, 1) := by decide +kernel
theorem dX12_single_15 : decode cX12_single 15 = .ok (.iload_n 1, 1) := by decide +kernel
theorem dX12_single_16 : decode cX12_single 16 = .ok (.iconst 1, 1) := by decide +kernel
theorem dX12_single_17 : decode cX12_single 17 = .ok (.isub, 1) := by decide +kernel
theorem dX12_single_18 : decode cX12_single 18 = .ok (.i2l, 1) := by decide +kernel
theorem dX12_single_19 : decode cX12_single 19 = .ok (.invokestatic 78, 3) := by decide +kernel
theorem dX12_single_22 : decode cX12_single 22 = .ok (.ifCond .eq 16, 3) := by decide +kernel
theorem dX12_single_25 : decode cX12_single 25 = .ok (.iload_n 3, 1) := by decide +kernel
theorem dX12_single_26 : decode cX12_single 26 = .ok (.iload 4, 2) := by decide +kernel
theorem dX12_single_28 : decode cX12_single 28 = .ok (.iload 5, 2) := by decide +kernel
theorem dX12_single_30 : decode cX12_single 30 = .ok (.iload 6, 2) := by decide +kernel
theorem dX12_single_32 : decode cX12_single 32 = .ok (.invokestatic 283, 3) := by decide +kernel
theorem dX12_single_35 : decode cX12_single 35 = .ok (.ifCond .ne 5, 3) := by decide +kernel
theorem dX12_single_38 : decode cX12_single 38 = .ok (.iconst 0, 1) := by decide +kernel
theorem dX12_single_39 : decode cX12_single 39 = .ok (.ireturn, 1) := by decide +kernel
theorem dX12_single_40 : decode cX12_single 40 = .ok (.aload_n 0, 1) := by decide +kernel
theorem dX12_single_41 : decode cX12_single 41 = .ok (.iload_n 1, 1) := by decide +kernel
theorem dX12_single_42 : decode cX12_single 42 = .ok (.iconst 3, 1) := by decide +kernel
theorem dX12_single_43 : decode cX12_single 43 = .ok (.iload_n 3, 1) := by decide +kernel
theorem dX12_single_44 : decode cX12_single 44 = .ok (.iload 4, 2) := by decide +kernel
theorem dX12_single_46 : decode cX12_single 46 = .ok (.iload 5, 2) := by decide +kernel
theorem dX12_single_48 : decode cX12_single 48 = .ok (.iload 6, 2) := by decide +kernel
theorem dX12_single_50 : decode cX12_single 50 = .ok (.invokevirtual 271, 3) := by decide +kernel
theorem dX12_single_53 : decode cX12_single 53 = .ok (.aload_n 0, 1) := by decide +kernel
theorem dX12_single_54 : decode cX12_single 54 = .ok (.iload_n 1, 1) := by decide +kernel
theorem dX12_single_55 : decode cX12_single 55 = .ok (.iconst 5, 1) := by decide +kernel
theorem dX12_single_56 : decode cX12_single 56 = .ok (.iload_n 2, 1) := by decide +kernel
theorem dX12_single_57 : decode cX12_single 57 = .ok (.invokevirtual 66, 3) := by decide +kernel
theorem dX12_single_60 : decode cX12_single 60 = .ok (.aload_n 0, 1) := by decide +kernel
theorem dX12_single_61 : decode cX12_single 61 = .ok (.invokevirtual 70, 3) := by decide +kernel
theorem dX12_single_64 : decode cX12_single 64 = .ok (.iconst 1, 1) := by decide +kernel
theorem dX12_single_65 : decode cX12_single 65 = .ok (.ireturn, 1) := by decide +kernel
theorem dX12_join_0 : decode cX12_join 0 = .ok (.aload_n 0, 1) := by decide +kernel
theorem dX12_join_1 : decode cX12_join 1 = .ok (.iconst 0, 1) := by decide +kernel
theorem dX12_join_2 : decode cX12_join 2 = .ok (.putfield 73, 3) := by decide +kernel
theorem dX12_join_5 : decode cX12_join 5 = .ok (.iload_n 1, 1) := by decide +kernel
theorem dX12_join_6 : decode cX12_join 6 = .ok (.invokestatic 264, 3) := by decide +kernel
theorem dX12_join_9 : decode cX12_join 9 = .ok (.ifCond .eq 42, 3) := by decide +kernel
theorem dX12_join_12 : decode cX12_join 12 = .ok (.iload_n 2, 1) := by decide +kernel
theorem dX12_join_13 : decode cX12_join 13 = .ok (.i2l, 1) := by decide +kernel
theorem dX12_join_14 : decode cX12_join 14 = .ok (.lconst 0, 1) := by decide +kernel
theorem dX12_join_15 : decode cX12_join 15 = .ok (.ldc2_w 287, 3) := by decide +kernel
theorem dX12_join_18 : decode cX12_join 18 = .ok (.invokestatic 78, 3) := by decide +kernel
theorem dX12_join_21 : decode cX12_join 21 = .ok (.ifCond .eq 30, 3) := by decide +kernel
theorem dX12_join_24 : decode cX12_join 24 = .ok (.iload_n 3, 1) := by decide +kernel
theorem dX12_join_25 : decode cX12_join 25 = .ok (.i2l, 1) := by decide +kernel
theorem dX12_join_26 : decode cX12_join 26 = .ok (.lconst 0, 1) := by decide +kernel
theorem dX12_join_27 : decode cX12_join 27 = .ok (.iload_n 1, 1) := by decide +kernel
theorem dX12_join_28 : decode cX12_join 28 = .ok (.iconst 1, 1) := by decide +kernel
theorem dX12_join_29 : decode cX12_join 29 = .ok (.isub, 1) := by decide +kernel
theorem dX12_join_30 : decode cX12_join 30 = .ok (.i2l, 1) := by decide +kernel
theorem dX12_join_31 : decode cX12_join 31 = .ok (.invokestatic 78, 3) := by decide +kernel
theorem dX12_join_34 : decode cX12_join 34 = .ok (.ifCond .eq 17, 3) := by decide +kernel
theorem dX12_join_37 : decode cX12_join 37 = .ok (.iload 4, 2) := by decide +kernel
theorem dX12_join_39 : decode cX12_join 39 = .ok (.i2l, 1) := by decide +kernel
theorem dX12_join_40 : decode cX12_join 40 = .ok (.lconst 0, 1) := by decide +kernel
theorem dX12_join_41 : decode cX12_join 41 = .ok (.iload_n 1, 1) := by decide +kernel
theorem dX12_join_42 : decode cX12_join 42 = .ok (.iconst 1, 1) := by decide +kernel
theorem dX12_join_43 : decode cX12_join 43 = .ok (.isub, 1) := by decide +kernel
theorem dX12_join_44 : decode cX12_join 44 = .ok (.i2l, 1) := by decide +kernel
theorem dX12_join_45 : decode cX12_join 45 = .ok (.invokestatic 78, 3) := by decide +kernel
theorem dX12_join_48 : decode cX12_join 48 = .ok (.ifCond .ne 5, 3) := by decide +kernel
theorem dX12_join_51 : decode cX12_join 51 = .ok (.iconst 0, 1) := by decide +kernel
theorem dX12_join_52 : decode cX12_join 52 = .ok (.ireturn, 1) := by decide +kernel
theorem dX12_join_53 : decode cX12_join 53 = .ok (.aload_n 0, 1) := by decide +kernel
theorem dX12_join_54 : decode cX12_join 54 = .ok (.iload_n 1, 1) := by decide +kernel
theorem dX12_join_55 : decode cX12_join 55 = .ok (.iconst 4, 1) := by decide +kernel
theorem dX12_join_56 : decode cX12_join 56 = .ok (.iload_n 2, 1) := by decide +kernel
theorem dX12_join_57 : decode cX12_join 57 = .ok (.iconst 0, 1) := by decide +kernel
theorem dX12_join_58 : decode cX12_join 58 = .ok (.iconst 0, 1) := by decide +kernel
theorem dX12_join_59 : decode cX12_join 59 = .ok (.iconst 0, 1) := by decide +kernel
theorem dX12_join_60 : decode cX12_join 60 = .ok (.invokevirtual 271, 3) := by decide +kernel
theorem dX12_join_63 : decode cX12_join 63 = .ok (.aload_n 0, 1) := by decide +kernel
theorem dX12_join_64 : decode cX12_join 64 = .ok (.iload_n 1, 1) := by decide +kernel
theorem dX12_join_65 : decode cX12_join 65 = .ok (.iconst 5, 1) := by decide +kernel
theorem dX12_join_66 : decode cX12_join 66 = .ok (.iload_n 3, 1) := by decide +kernel
theorem dX12_join_67 : decode cX12_join 67 = .ok (.invokevirtual 66, 3) := by decide +kernel
theorem dX12_join_70 : decode cX12_join 70 = .ok (.aload_n 0, 1) := by decide +kernel
theorem dX12_join_71 : decode cX12_join 71 = .ok (.iload_n 1, 1) := by decide +kernel
theorem dX12_join_72 : decode cX12_join 72 = .ok (.bipush 6, 2) := by decide +kernel
theorem dX12_join_74 : decode cX12_join 74 = .ok (.iload 4, 2) := by decide +kernel
theorem dX12_join_76 : decode cX12_join 76 = .ok (.invokevirtual 66, 3) := by decide +kernel
theorem dX12_join_79 : decode cX12_join 79 = .ok (.aload_n 0, 1) := by decide +kernel
theorem dX12_join_80 : decode cX12_join 80 = .ok (.invokevirtual 70, 3) := by decide +kernel
theorem dX12_join_83 : decode cX12_join 83 = .ok (.iconst 1, 1) := by decide +kernel
theorem dX12_join_84 : decode cX12_join 84 = .ok (.ireturn, 1) := by decide +kernel
theorem dX12_kindMany_0 : decode cX12_kindMany 0 = .ok (.iconst 0, 1) := by decide +kernel
theorem dX12_kindMany_1 : decode cX12_kindMany 1 = .ok (.istore_n 2, 1) := by decide +kernel
theorem dX12_kindMany_2 : decode cX12_kindMany 2 = .ok (.iconst 0, 1) := by decide +kernel
theorem dX12_kindMany_3 : decode cX12_kindMany 3 = .ok (.istore_n 3, 1) := by decide +kernel
theorem dX12_kindMany_4 : decode cX12_kindMany 4 = .ok (.iload_n 3, 1) := by decide +kernel
theorem dX12_kindMany_5 : decode cX12_kindMany 5 = .ok (.bipush 10, 2) := by decide +kernel
theorem dX12_kindMany_7 : decode cX12_kindMany 7 = .ok (.if_icmp .ge 27, 3) := by decide +kernel
theorem dX12_kindMany_10 : decode cX12_kindMany 10 = .ok (.iload_n 2, 1) := by decide +kernel
theorem dX12_kindMany_11 : decode cX12_kindMany 11 = .ok (.aload_n 0, 1) := by decide +kernel
theorem dX12_kindMany_12 : decode cX12_kindMany 12 = .ok (.iload_n 3, 1) := by decide +kernel
theorem dX12_kindMany_13 : decode cX12_kindMany 13 = .ok (.iconst 0, 1) := by decide +kernel
theorem dX12_kindMany_14 : decode cX12_kindMany 14 = .ok (.invokevirtual 86, 3) := by decide +kernel
theorem dX12_kindMany_17 : decode cX12_kindMany 17 = .ok (.iload_n 1, 1) := by decide +kernel
theorem dX12_kindMany_18 : decode cX12_kindMany 18 = .ok (.if_icmp .ne 7, 3) := by decide +kernel
theorem dX12_kindMany_21 : decode cX12_kindMany 21 = .ok (.iconst 1, 1) := by decide +kernel
theorem dX12_kindMany_22 : decode cX12_kindMany 22 = .ok (.goto 4, 3) := by decide +kernel
theorem dX12_kindMany_25 : decode cX12_kindMany 25 = .ok (.iconst 0, 1) := by decide +kernel
theorem dX12_kindMany_26 : decode cX12_kindMany 26 = .ok (.iadd, 1) := by decide +kernel
theorem dX12_kindMany_27 : decode cX12_kindMany 27 = .ok (.istore_n 2, 1) := by decide +kernel
theorem dX12_kindMany_28 : decode cX12_kindMany 28 = .ok (.iinc 3 1, 3) := by decide +kernel
theorem dX12_kindMany_31 : decode cX12_kindMany 31 = .ok (.goto (-27), 3) := by decide +kernel
theorem dX12_kindMany_34 : decode cX12_kindMany 34 = .ok (.iload_n 2, 1) := by decide +kernel
theorem dX12_kindMany_35 : decode cX12_kindMany 35 = .ok (.ireturn, 1) := by decide +kernel
theorem dX12_stopMany_0 : decode cX12_stopMany 0 = .ok (.iconst 0, 1) := by decide +kernel
theorem dX12_stopMany_1 : decode cX12_stopMany 1 = .ok (.istore_n 2, 1) := by decide +kernel
theorem dX12_stopMany_2 : decode cX12_stopMany 2 = .ok (.iconst 0, 1) := by decide +kernel
theorem dX12_stopMany_3 : decode cX12_stopMany 3 = .ok (.istore_n 3, 1) := by decide +kernel
theorem dX12_stopMany_4 : decode cX12_stopMany 4 = .ok (.iload_n 3, 1) := by decide +kernel
theorem dX12_stopMany_5 : decode cX12_stopMany 5 = .ok (.bipush 10, 2) := by decide +kernel
theorem dX12_stopMany_7 : decode cX12_stopMany 7 = .ok (.if_icmp .ge 27, 3) := by decide +kernel
theorem dX12_stopMany_10 : decode cX12_stopMany 10 = .ok (.iload_n 2, 1) := by decide +kernel
theorem dX12_stopMany_11 : decode cX12_stopMany 11 = .ok (.aload_n 0, 1) := by decide +kernel
theorem dX12_stopMany_12 : decode cX12_stopMany 12 = .ok (.getfield 22, 3) := by decide +kernel
theorem dX12_stopMany_15 : decode cX12_stopMany 15 = .ok (.iload_n 3, 1) := by decide +kernel
theorem dX12_stopMany_16 : decode cX12_stopMany 16 = .ok (.iaload, 1) := by decide +kernel
theorem dX12_stopMany_17 : decode cX12_stopMany 17 = .ok (.iload_n 1, 1) := by decide +kernel
theorem dX12_stopMany_18 : decode cX12_stopMany 18 = .ok (.if_icmp .ne 7, 3) := by decide +kernel
theorem dX12_stopMany_21 : decode cX12_stopMany 21 = .ok (.iconst 1, 1) := by decide +kernel
theorem dX12_stopMany_22 : decode cX12_stopMany 22 = .ok (.goto 4, 3) := by decide +kernel
theorem dX12_stopMany_25 : decode cX12_stopMany 25 = .ok (.iconst 0, 1) := by decide +kernel
theorem dX12_stopMany_26 : decode cX12_stopMany 26 = .ok (.iadd, 1) := by decide +kernel
theorem dX12_stopMany_27 : decode cX12_stopMany 27 = .ok (.istore_n 2, 1) := by decide +kernel
theorem dX12_stopMany_28 : decode cX12_stopMany 28 = .ok (.iinc 3 1, 3) := by decide +kernel
theorem dX12_stopMany_31 : decode cX12_stopMany 31 = .ok (.goto (-27), 3) := by decide +kernel
theorem dX12_stopMany_34 : decode cX12_stopMany 34 = .ok (.iload_n 2, 1) := by decide +kernel
theorem dX12_stopMany_35 : decode cX12_stopMany 35 = .ok (.ireturn, 1) := by decide +kernel
theorem dX12_count_0 : decode cX12_count 0 = .ok (.aload_n 0, 1) := by decide +kernel
theorem dX12_count_1 : decode cX12_count 1 = .ok (.iconst 0, 1) := by decide +kernel
theorem dX12_count_2 : decode cX12_count 2 = .ok (.putfield 73, 3) := by decide +kernel
theorem dX12_count_5 : decode cX12_count 5 = .ok (.iload_n 1, 1) := by decide +kernel
theorem dX12_count_6 : decode cX12_count 6 = .ok (.tableswitch 72 0 7 #[46, 51, 56, 56, 64, 64, 64, 64], 46) := by decide +kernel
theorem dX12_count_52 : decode cX12_count 52 = .ok (.aload_n 0, 1) := by decide +kernel
theorem dX12_count_53 : decode cX12_count 53 = .ok (.getfield 258, 3) := by decide +kernel
theorem dX12_count_56 : decode cX12_count 56 = .ok (.ireturn, 1) := by decide +kernel
theorem dX12_count_57 : decode cX12_count 57 = .ok (.aload_n 0, 1) := by decide +kernel
theorem dX12_count_58 : decode cX12_count 58 = .ok (.getfield 289, 3) := by decide +kernel
theorem dX12_count_61 : decode cX12_count 61 = .ok (.ireturn, 1) := by decide +kernel
theorem dX12_count_62 : decode cX12_count 62 = .ok (.aload_n 0, 1) := by decide +kernel
theorem dX12_count_63 : decode cX12_count 63 = .ok (.iload_n 1, 1) := by decide +kernel
theorem dX12_count_64 : decode cX12_count 64 = .ok (.iconst 1, 1) := by decide +kernel
theorem dX12_count_65 : decode cX12_count 65 = .ok (.iadd, 1) := by decide +kernel
theorem dX12_count_66 : decode cX12_count 66 = .ok (.invokevirtual 292, 3) := by decide +kernel
theorem dX12_count_69 : decode cX12_count 69 = .ok (.ireturn, 1) := by decide +kernel
theorem dX12_count_70 : decode cX12_count 70 = .ok (.aload_n 0, 1) := by decide +kernel
theorem dX12_count_71 : decode cX12_count 71 = .ok (.iload_n 1, 1) := by decide +kernel
theorem dX12_count_72 : decode cX12_count 72 = .ok (.iconst 4, 1) := by decide +kernel
theorem dX12_count_73 : decode cX12_count 73 = .ok (.isub, 1) := by decide +kernel
theorem dX12_count_74 : decode cX12_count 74 = .ok (.invokevirtual 296, 3) := by decide +kernel
theorem dX12_count_77 : decode cX12_count 77 = .ok (.ireturn, 1) := by decide +kernel
theorem dX12_count_78 : decode cX12_count 78 = .ok (.aload_n 0, 1) := by decide +kernel
theorem dX12_count_79 : decode cX12_count 79 = .ok (.iconst 1, 1) := by decide +kernel
theorem dX12_count_80 : decode cX12_count 80 = .ok (.invokevirtual 299, 3) := by decide +kernel
theorem dX12_count_83 : decode cX12_count 83 = .ok (.ireturn, 1) := by decide +kernel
theorem dX12_greatestOf_0 : decode cX12_greatestOf 0 = .ok (.iconst 0, 1) := by decide +kernel
theorem dX12_greatestOf_1 : decode cX12_greatestOf 1 = .ok (.istore_n 2, 1) := by decide +kernel
theorem dX12_greatestOf_2 : decode cX12_greatestOf 2 = .ok (.iconst 1, 1) := by decide +kernel
theorem dX12_greatestOf_3 : decode cX12_greatestOf 3 = .ok (.istore_n 3, 1) := by decide +kernel
theorem dX12_greatestOf_4 : decode cX12_greatestOf 4 = .ok (.iload_n 3, 1) := by decide +kernel
theorem dX12_greatestOf_5 : decode cX12_greatestOf 5 = .ok (.aload_n 0, 1) := by decide +kernel
theorem dX12_greatestOf_6 : decode cX12_greatestOf 6 = .ok (.getfield 19, 3) := by decide +kernel
theorem dX12_greatestOf_9 : decode cX12_greatestOf 9 = .ok (.iload_n 1, 1) := by decide +kernel
theorem dX12_greatestOf_10 : decode cX12_greatestOf 10 = .ok (.iaload, 1) := by decide +kernel
theorem dX12_greatestOf_11 : decode cX12_greatestOf 11 = .ok (.if_icmp .ge 20, 3) := by decide +kernel
theorem dX12_greatestOf_14 : decode cX12_greatestOf 14 = .ok (.iload_n 2, 1) := by decide +kernel
theorem dX12_greatestOf_15 : decode cX12_greatestOf 15 = .ok (.aload_n 0, 1) := by decide +kernel
theorem dX12_greatestOf_16 : decode cX12_greatestOf 16 = .ok (.iload_n 1, 1) := by decide +kernel
theorem dX12_greatestOf_17 : decode cX12_greatestOf 17 = .ok (.iload_n 3, 1) := by decide +kernel
theorem dX12_greatestOf_18 : decode cX12_greatestOf 18 = .ok (.invokevirtual 219, 3) := by decide +kernel
theorem dX12_greatestOf_21 : decode cX12_greatestOf 21 = .ok (.invokestatic 302, 3) := by decide +kernel
theorem dX12_greatestOf_24 : decode cX12_greatestOf 24 = .ok (.istore_n 2, 1) := by decide +kernel
theorem dX12_greatestOf_25 : decode cX12_greatestOf 25 = .ok (.iinc 3 1, 3) := by decide +kernel
theorem dX12_greatestOf_28 : decode cX12_greatestOf 28 = .ok (.goto (-24), 3) := by decide +kernel
theorem dX12_greatestOf_31 : decode cX12_greatestOf 31 = .ok (.iload_n 2, 1) := by decide +kernel
theorem dX12_greatestOf_32 : decode cX12_greatestOf 32 = .ok (.ireturn, 1) := by decide +kernel
theorem dX12_sumTo_0 : decode cX12_sumTo 0 = .ok (.lconst 0, 1) := by decide +kernel
theorem dX12_sumTo_1 : decode cX12_sumTo 1 = .ok (.lstore_n 3, 1) := by decide +kernel
theorem dX12_sumTo_2 : decode cX12_sumTo 2 = .ok (.iconst 0, 1) := by decide +kernel
theorem dX12_sumTo_3 : decode cX12_sumTo 3 = .ok (.istore 5, 2) := by decide +kernel
theorem dX12_sumTo_5 : decode cX12_sumTo 5 = .ok (.iload 5, 2) := by decide +kernel
theorem dX12_sumTo_7 : decode cX12_sumTo 7 = .ok (.iload_n 2, 1) := by decide +kernel
theorem dX12_sumTo_8 : decode cX12_sumTo 8 = .ok (.if_icmp .gt 20, 3) := by decide +kernel
theorem dX12_sumTo_11 : decode cX12_sumTo 11 = .ok (.lload_n 3, 1) := by decide +kernel
theorem dX12_sumTo_12 : decode cX12_sumTo 12 = .ok (.aload_n 0, 1) := by decide +kernel
theorem dX12_sumTo_13 : decode cX12_sumTo 13 = .ok (.iload_n 1, 1) := by decide +kernel
theorem dX12_sumTo_14 : decode cX12_sumTo 14 = .ok (.iload 5, 2) := by decide +kernel
theorem dX12_sumTo_16 : decode cX12_sumTo 16 = .ok (.invokevirtual 219, 3) := by decide +kernel
theorem dX12_sumTo_19 : decode cX12_sumTo 19 = .ok (.i2l, 1) := by decide +kernel
theorem dX12_sumTo_20 : decode cX12_sumTo 20 = .ok (.ladd, 1) := by decide +kernel
theorem dX12_sumTo_21 : decode cX12_sumTo 21 = .ok (.lstore_n 3, 1) := by decide +kernel
theorem dX12_sumTo_22 : decode cX12_sumTo 22 = .ok (.iinc 5 1, 3) := by decide +kernel
theorem dX12_sumTo_25 : decode cX12_sumTo 25 = .ok (.goto (-20), 3) := by decide +kernel
theorem dX12_sumTo_28 : decode cX12_sumTo 28 = .ok (.lload_n 3, 1) := by decide +kernel
theorem dX12_sumTo_29 : decode cX12_sumTo 29 = .ok (.lreturn, 1) := by decide +kernel
theorem dX12_isMadeOf_0 : decode cX12_isMadeOf 0 = .ok (.aload_n 0, 1) := by decide +kernel
theorem dX12_isMadeOf_1 : decode cX12_isMadeOf 1 = .ok (.iload_n 1, 1) := by decide +kernel
theorem dX12_isMadeOf_2 : decode cX12_isMadeOf 2 = .ok (.iconst 0, 1) := by decide +kernel
theorem dX12_isMadeOf_3 : decode cX12_isMadeOf 3 = .ok (.invokevirtual 86, 3) := by decide +kernel
theorem dX12_isMadeOf_6 : decode cX12_isMadeOf 6 = .ok (.istore_n 3, 1) := by decide +kernel
theorem dX12_isMadeOf_7 : decode cX12_isMadeOf 7 = .ok (.iload_n 3, 1) := by decide +kernel
theorem dX12_isMadeOf_8 : decode cX12_isMadeOf 8 = .ok (.iconst 3, 1) := by decide +kernel
theorem dX12_isMadeOf_9 : decode cX12_isMadeOf 9 = .ok (.if_icmp .lt 13, 3) := by decide +kernel
theorem dX12_isMadeOf_12 : decode cX12_isMadeOf 12 = .ok (.aload_n 0, 1) := by decide +kernel
theorem dX12_isMadeOf_13 : decode cX12_isMadeOf 13 = .ok (.iload_n 1, 1) := by decide +kernel
theorem dX12_isMadeOf_14 : decode cX12_isMadeOf 14 = .ok (.iconst 5, 1) := by decide +kernel
theorem dX12_isMadeOf_15 : decode cX12_isMadeOf 15 = .ok (.invokevirtual 86, 3) := by decide +kernel
theorem dX12_isMadeOf_18 : decode cX12_isMadeOf 18 = .ok (.iload_n 2, 1) := by decide +kernel
theorem dX12_isMadeOf_19 : decode cX12_isMadeOf 19 = .ok (.if_icmp .eq 19, 3) := by decide +kernel
theorem dX12_isMadeOf_22 : decode cX12_isMadeOf 22 = .ok (.iload_n 3, 1) := by decide +kernel
theorem dX12_isMadeOf_23 : decode cX12_isMadeOf 23 = .ok (.iconst 4, 1) := by decide +kernel
theorem dX12_isMadeOf_24 : decode cX12_isMadeOf 24 = .ok (.if_icmp .ne 18, 3) := by decide +kernel
theorem dX12_isMadeOf_27 : decode cX12_isMadeOf 27 = .ok (.aload_n 0, 1) := by decide +kernel
theorem dX12_isMadeOf_28 : decode cX12_isMadeOf 28 = .ok (.iload_n 1, 1) := by decide +kernel
theorem dX12_isMadeOf_29 : decode cX12_isMadeOf 29 = .ok (.bipush 6, 2) := by decide +kernel
theorem dX12_isMadeOf_31 : decode cX12_isMadeOf 31 = .ok (.invokevirtual 86, 3) := by decide +kernel
theorem dX12_isMadeOf_34 : decode cX12_isMadeOf 34 = .ok (.iload_n 2, 1) := by decide +kernel
theorem dX12_isMadeOf_35 : decode cX12_isMadeOf 35 = .ok (.if_icmp .ne 7, 3) := by decide +kernel
theorem dX12_isMadeOf_38 : decode cX12_isMadeOf 38 = .ok (.iconst 1, 1) := by decide +kernel
theorem dX12_isMadeOf_39 : decode cX12_isMadeOf 39 = .ok (.goto 4, 3) := by decide +kernel
theorem dX12_isMadeOf_42 : decode cX12_isMadeOf 42 = .ok (.iconst 0, 1) := by decide +kernel
theorem dX12_isMadeOf_43 : decode cX12_isMadeOf 43 = .ok (.ireturn, 1) := by decide +kernel
theorem dX12_madeOf_0 : decode cX12_madeOf 0 = .ok (.iconst 0, 1) := by decide +kernel
theorem dX12_madeOf_1 : decode cX12_madeOf 1 = .ok (.istore_n 2, 1) := by decide +kernel
theorem dX12_madeOf_2 : decode cX12_madeOf 2 = .ok (.iconst 0, 1) := by decide +kernel
theorem dX12_madeOf_3 : decode cX12_madeOf 3 = .ok (.istore_n 3, 1) := by decide +kernel
theorem dX12_madeOf_4 : decode cX12_madeOf 4 = .ok (.iload_n 3, 1) := by decide +kernel
theorem dX12_madeOf_5 : decode cX12_madeOf 5 = .ok (.bipush 10, 2) := by decide +kernel
theorem dX12_madeOf_7 : decode cX12_madeOf 7 = .ok (.if_icmp .ge 26, 3) := by decide +kernel
theorem dX12_madeOf_10 : decode cX12_madeOf 10 = .ok (.iload_n 2, 1) := by decide +kernel
theorem dX12_madeOf_11 : decode cX12_madeOf 11 = .ok (.aload_n 0, 1) := by decide +kernel
theorem dX12_madeOf_12 : decode cX12_madeOf 12 = .ok (.iload_n 3, 1) := by decide +kernel
theorem dX12_madeOf_13 : decode cX12_madeOf 13 = .ok (.iload_n 1, 1) := by decide +kernel
theorem dX12_madeOf_14 : decode cX12_madeOf 14 = .ok (.invokevirtual 305, 3) := by decide +kernel
theorem dX12_madeOf_17 : decode cX12_madeOf 17 = .ok (.ifCond .eq 7, 3) := by decide +kernel
theorem dX12_madeOf_20 : decode cX12_madeOf 20 = .ok (.iconst 1, 1) := by decide +kernel
theorem dX12_madeOf_21 : decode cX12_madeOf 21 = .ok (.goto 4, 3) := by decide +kernel
theorem dX12_madeOf_24 : decode cX12_madeOf 24 = .ok (.iconst 0, 1) := by decide +kernel
theorem dX12_madeOf_25 : decode cX12_madeOf 25 = .ok (.iadd, 1) := by decide +kernel
theorem dX12_madeOf_26 : decode cX12_madeOf 26 = .ok (.istore_n 2, 1) := by decide +kernel
theorem dX12_madeOf_27 : decode cX12_madeOf 27 = .ok (.iinc 3 1, 3) := by decide +kernel
theorem dX12_madeOf_30 : decode cX12_madeOf 30 = .ok (.goto (-26), 3) := by decide +kernel
theorem dX12_madeOf_33 : decode cX12_madeOf 33 = .ok (.iload_n 2, 1) := by decide +kernel
theorem dX12_madeOf_34 : decode cX12_madeOf 34 = .ok (.ireturn, 1) := by decide +kernel
theorem dX12_of_0 : decode cX12_of 0 = .ok (.aload_n 0, 1) := by decide +kernel
theorem dX12_of_1 : decode cX12_of 1 = .ok (.iconst 0, 1) := by decide +kernel
theorem dX12_of_2 : decode cX12_of 2 = .ok (.putfield 73, 3) := by decide +kernel
theorem dX12_of_5 : decode cX12_of 5 = .ok (.iload_n 1, 1) := by decide +kernel
theorem dX12_of_6 : decode cX12_of 6 = .ok (.invokestatic 264, 3) := by decide +kernel
theorem dX12_of_9 : decode cX12_of 9 = .ok (.ifCond .eq 15, 3) := by decide +kernel
theorem dX12_of_12 : decode cX12_of 12 = .ok (.iload_n 2, 1) := by decide +kernel
theorem dX12_of_13 : decode cX12_of 13 = .ok (.i2l, 1) := by decide +kernel
theorem dX12_of_14 : decode cX12_of 14 = .ok (.lconst 0, 1) := by decide +kernel
theorem dX12_of_15 : decode cX12_of 15 = .ok (.ldc2_w 309, 3) := by decide +kernel
theorem dX12_of_18 : decode cX12_of 18 = .ok (.invokestatic 78, 3) := by decide +kernel
theorem dX12_of_21 : decode cX12_of 21 = .ok (.ifCond .ne 9, 3) := by decide +kernel
theorem dX12_of_24 : decode cX12_of 24 = .ok (.aload_n 0, 1) := by decide +kernel
theorem dX12_of_25 : decode cX12_of 25 = .ok (.iconst 1, 1) := by decide +kernel
theorem dX12_of_26 : decode cX12_of 26 = .ok (.invokevirtual 299, 3) := by decide +kernel
theorem dX12_of_29 : decode cX12_of 29 = .ok (.ireturn, 1) := by decide +kernel
theorem dX12_of_30 : decode cX12_of 30 = .ok (.iload_n 2, 1) := by decide +kernel
theorem dX12_of_31 : decode cX12_of 31 = .ok (.tableswitch 86 0 5 #[37, 44, 51, 58, 65, 71], 37) := by decide +kernel
theorem dX12_of_68 : decode cX12_of 68 = .ok (.aload_n 0, 1) := by decide +kernel
theorem dX12_of_69 : decode cX12_of 69 = .ok (.iload_n 1, 1) := by decide +kernel
theorem dX12_of_70 : decode cX12_of 70 = .ok (.iconst 0, 1) := by decide +kernel
theorem dX12_of_71 : decode cX12_of 71 = .ok (.invokevirtual 86, 3) := by decide +kernel
theorem dX12_of_74 : decode cX12_of 74 = .ok (.ireturn, 1) := by decide +kernel
theorem dX12_of_75 : decode cX12_of 75 = .ok (.aload_n 0, 1) := by decide +kernel
theorem dX12_of_76 : decode cX12_of 76 = .ok (.getfield 19, 3) := by decide +kernel
theorem dX12_of_79 : decode cX12_of 79 = .ok (.iload_n 1, 1) := by decide +kernel
theorem dX12_of_80 : decode cX12_of 80 = .ok (.iaload, 1) := by decide +kernel
theorem dX12_of_81 : decode cX12_of 81 = .ok (.ireturn, 1) := by decide +kernel
theorem dX12_of_82 : decode cX12_of 82 = .ok (.aload_n 0, 1) := by decide +kernel
theorem dX12_of_83 : decode cX12_of 83 = .ok (.getfield 22, 3) := by decide +kernel
theorem dX12_of_86 : decode cX12_of 86 = .ok (.iload_n 1, 1) := by decide +kernel
theorem dX12_of_87 : decode cX12_of 87 = .ok (.iaload, 1) := by decide +kernel
theorem dX12_of_88 : decode cX12_of 88 = .ok (.ireturn, 1) := by decide +kernel
theorem dX12_of_89 : decode cX12_of 89 = .ok (.aload_n 0, 1) := by decide +kernel
theorem dX12_of_90 : decode cX12_of 90 = .ok (.getfield 25, 3) := by decide +kernel
theorem dX12_of_93 : decode cX12_of 93 = .ok (.iload_n 1, 1) := by decide +kernel
theorem dX12_of_94 : decode cX12_of 94 = .ok (.iaload, 1) := by decide +kernel
theorem dX12_of_95 : decode cX12_of 95 = .ok (.ireturn, 1) := by decide +kernel
theorem dX12_of_96 : decode cX12_of 96 = .ok (.aload_n 0, 1) := by decide +kernel
theorem dX12_of_97 : decode cX12_of 97 = .ok (.iload_n 1, 1) := by decide +kernel
theorem dX12_of_98 : decode cX12_of 98 = .ok (.invokevirtual 311, 3) := by decide +kernel
theorem dX12_of_101 : decode cX12_of 101 = .ok (.ireturn, 1) := by decide +kernel
theorem dX12_of_102 : decode cX12_of 102 = .ok (.aload_n 0, 1) := by decide +kernel
theorem dX12_of_103 : decode cX12_of 103 = .ok (.iload_n 1, 1) := by decide +kernel
theorem dX12_of_104 : decode cX12_of 104 = .ok (.aload_n 0, 1) := by decide +kernel
theorem dX12_of_105 : decode cX12_of 105 = .ok (.getfield 19, 3) := by decide +kernel
theorem dX12_of_108 : decode cX12_of 108 = .ok (.iload_n 1, 1) := by decide +kernel
theorem dX12_of_109 : decode cX12_of 109 = .ok (.iaload, 1) := by decide +kernel
theorem dX12_of_110 : decode cX12_of 110 = .ok (.iconst 1, 1) := by decide +kernel
theorem dX12_of_111 : decode cX12_of 111 = .ok (.isub, 1) := by decide +kernel
theorem dX12_of_112 : decode cX12_of 112 = .ok (.invokevirtual 314, 3) := by decide +kernel
theorem dX12_of_115 : decode cX12_of 115 = .ok (.l2i, 1) := by decide +kernel
theorem dX12_of_116 : decode cX12_of 116 = .ok (.ireturn, 1) := by decide +kernel
theorem dX12_of_117 : decode cX12_of 117 = .ok (.aload_n 0, 1) := by decide +kernel
theorem dX12_of_118 : decode cX12_of 118 = .ok (.iload_n 1, 1) := by decide +kernel
theorem dX12_of_119 : decode cX12_of 119 = .ok (.invokevirtual 317, 3) := by decide +kernel
theorem dX12_of_122 : decode cX12_of 122 = .ok (.ireturn, 1) := by decide +kernel
theorem dX12_term_0 : decode cX12_term 0 = .ok (.aload_n 0, 1) := by decide +kernel
theorem dX12_term_1 : decode cX12_term 1 = .ok (.iconst 0, 1) := by decide +kernel
theorem dX12_term_2 : decode cX12_term 2 = .ok (.putfield 73, 3) := by decide +kernel
theorem dX12_term_5 : decode cX12_term 5 = .ok (.iload_n 1, 1) := by decide +kernel
theorem dX12_term_6 : decode cX12_term 6 = .ok (.invokestatic 264, 3) := by decide +kernel
theorem dX12_term_9 : decode cX12_term 9 = .ok (.ifCond .eq 21, 3) := by decide +kernel
theorem dX12_term_12 : decode cX12_term 12 = .ok (.aload_n 0, 1) := by decide +kernel
theorem dX12_term_13 : decode cX12_term 13 = .ok (.iload_n 1, 1) := by decide +kernel
theorem dX12_term_14 : decode cX12_term 14 = .ok (.iload_n 2, 1) := by decide +kernel
theorem dX12_term_15 : decode cX12_term 15 = .ok (.invokevirtual 320, 3) := by decide +kernel
theorem dX12_term_18 : decode cX12_term 18 = .ok (.ifCond .eq 12, 3) := by decide +kernel
theorem dX12_term_21 : decode cX12_term 21 = .ok (.aload_n 0, 1) := by decide +kernel
theorem dX12_term_22 : decode cX12_term 22 = .ok (.iload_n 1, 1) := by decide +kernel
theorem dX12_term_23 : decode cX12_term 23 = .ok (.iload_n 2, 1) := by decide +kernel
theorem dX12_term_24 : decode cX12_term 24 = .ok (.invokevirtual 219, 3) := by decide +kernel
theorem dX12_term_27 : decode cX12_term 27 = .ok (.goto 8, 3) := by decide +kernel
theorem dX12_term_30 : decode cX12_term 30 = .ok (.aload_n 0, 1) := by decide +kernel
theorem dX12_term_31 : decode cX12_term 31 = .ok (.iconst 1, 1) := by decide +kernel
theorem dX12_term_32 : decode cX12_term 32 = .ok (.invokevirtual 299, 3) := by decide +kernel
theorem dX12_term_35 : decode cX12_term 35 = .ok (.ireturn, 1) := by decide +kernel
theorem dX12_read_0 : decode cX12_read 0 = .ok (.aload_n 0, 1) := by decide +kernel
theorem dX12_read_1 : decode cX12_read 1 = .ok (.iconst 0, 1) := by decide +kernel
theorem dX12_read_2 : decode cX12_read 2 = .ok (.putfield 73, 3) := by decide +kernel
theorem dX12_read_5 : decode cX12_read 5 = .ok (.iload_n 1, 1) := by decide +kernel
theorem dX12_read_6 : decode cX12_read 6 = .ok (.invokestatic 264, 3) := by decide +kernel
theorem dX12_read_9 : decode cX12_read 9 = .ok (.ifCond .eq 30, 3) := by decide +kernel
theorem dX12_read_12 : decode cX12_read 12 = .ok (.aload_n 0, 1) := by decide +kernel
theorem dX12_read_13 : decode cX12_read 13 = .ok (.iload_n 1, 1) := by decide +kernel
theorem dX12_read_14 : decode cX12_read 14 = .ok (.iconst 0, 1) := by decide +kernel
theorem dX12_read_15 : decode cX12_read 15 = .ok (.invokevirtual 86, 3) := by decide +kernel
theorem dX12_read_18 : decode cX12_read 18 = .ok (.iload_n 3, 1) := by decide +kernel
theorem dX12_read_19 : decode cX12_read 19 = .ok (.ifCond .eq 7, 3) := by decide +kernel
theorem dX12_read_22 : decode cX12_read 22 = .ok (.iconst 4, 1) := by decide +kernel
theorem dX12_read_23 : decode cX12_read 23 = .ok (.goto 4, 3) := by decide +kernel
theorem dX12_read_26 : decode cX12_read 26 = .ok (.iconst 3, 1) := by decide +kernel
theorem dX12_read_27 : decode cX12_read 27 = .ok (.if_icmp .lt 12, 3) := by decide +kernel
theorem dX12_read_30 : decode cX12_read 30 = .ok (.aload_n 0, 1) := by decide +kernel
theorem dX12_read_31 : decode cX12_read 31 = .ok (.iload_n 1, 1) := by decide +kernel
theorem dX12_read_32 : decode cX12_read 32 = .ok (.iload_n 2, 1) := by decide +kernel
theorem dX12_read_33 : decode cX12_read 33 = .ok (.invokevirtual 320, 3) := by decide +kernel
theorem dX12_read_36 : decode cX12_read 36 = .ok (.ifCond .ne 9, 3) := by decide +kernel
theorem dX12_read_39 : decode cX12_read 39 = .ok (.aload_n 0, 1) := by decide +kernel
theorem dX12_read_40 : decode cX12_read 40 = .ok (.iconst 1, 1) := by decide +kernel
theorem dX12_read_41 : decode cX12_read 41 = .ok (.invokevirtual 299, 3) := by decide +kernel
theorem dX12_read_44 : decode cX12_read 44 = .ok (.ireturn, 1) := by decide +kernel
theorem dX12_read_45 : decode cX12_read 45 = .ok (.iload_n 3, 1) := by decide +kernel
theorem dX12_read_46 : decode cX12_read 46 = .ok (.ifCond .eq 17, 3) := by decide +kernel
theorem dX12_read_49 : decode cX12_read 49 = .ok (.aload_n 0, 1) := by decide +kernel
theorem dX12_read_50 : decode cX12_read 50 = .ok (.getfield 31, 3) := by decide +kernel
theorem dX12_read_53 : decode cX12_read 53 = .ok (.bipush 60, 2) := by decide +kernel
theorem dX12_read_55 : decode cX12_read 55 = .ok (.iload_n 1, 1) := by decide +kernel
theorem dX12_read_56 : decode cX12_read 56 = .ok (.imul, 1) := by decide +kernel
theorem dX12_read_57 : decode cX12_read 57 = .ok (.iload_n 2, 1) := by decide +kernel
theorem dX12_read_58 : decode cX12_read 58 = .ok (.iadd, 1) := by decide +kernel
theorem dX12_read_59 : decode cX12_read 59 = .ok (.iaload, 1) := by decide +kernel
theorem dX12_read_60 : decode cX12_read 60 = .ok (.goto 14, 3) := by decide +kernel
theorem dX12_read_63 : decode cX12_read 63 = .ok (.aload_n 0, 1) := by decide +kernel
theorem dX12_read_64 : decode cX12_read 64 = .ok (.getfield 28, 3) := by decide +kernel
theorem dX12_read_67 : decode cX12_read 67 = .ok (.bipush 60, 2) := by decide +kernel
theorem dX12_read_69 : decode cX12_read 69 = .ok (.iload_n 1, 1) := by decide +kernel
theorem dX12_read_70 : decode cX12_read 70 = .ok (.imul, 1) := by decide +kernel
theorem dX12_read_71 : decode cX12_read 71 = .ok (.iload_n 2, 1) := by decide +kernel
theorem dX12_read_72 : decode cX12_read 72 = .ok (.iadd, 1) := by decide +kernel
theorem dX12_read_73 : decode cX12_read 73 = .ok (.iaload, 1) := by decide +kernel
theorem dX12_read_74 : decode cX12_read 74 = .ok (.ireturn, 1) := by decide +kernel
theorem dX12_layConvergents_0 : decode cX12_layConvergents 0 = .ok (.aload_n 0, 1) := by decide +kernel
theorem dX12_layConvergents_1 : decode cX12_layConvergents 1 = .ok (.iconst 0, 1) := by decide +kernel
theorem dX12_layConvergents_2 : decode cX12_layConvergents 2 = .ok (.putfield 323, 3) := by decide +kernel
theorem dX12_layConvergents_5 : decode cX12_layConvergents 5 = .ok (.aload_n 0, 1) := by decide +kernel
theorem dX12_layConvergents_6 : decode cX12_layConvergents 6 = .ok (.iconst 0, 1) := by decide +kernel
theorem dX12_layConvergents_7 : decode cX12_layConvergents 7 = .ok (.putfield 141, 3) := by decide +kernel
theorem dX12_layConvergents_10 : decode cX12_layConvergents 10 = .ok (.iconst 0, 1) := by decide +kernel
theorem dX12_layConvergents_11 : decode cX12_layConvergents 11 = .ok (.istore_n 2, 1) := by decide +kernel
theorem dX12_layConvergents_12 : decode cX12_layConvergents 12 = .ok (.iload_n 2, 1) := by decide +kernel
theorem dX12_layConvergents_13 : decode cX12_layConvergents 13 = .ok (.aload_n 0, 1) := by decide +kernel
theorem dX12_layConvergents_14 : decode cX12_layConvergents 14 = .ok (.getfield 19, 3) := by decide +kernel
theorem dX12_layConvergents_17 : decode cX12_layConvergents 17 = .ok (.iload_n 1, 1) := by decide +kernel
theorem dX12_layConvergents_18 : decode cX12_layConvergents 18 = .ok (.iaload, 1) := by decide +kernel
theorem dX12_layConvergents_19 : decode cX12_layConvergents 19 = .ok (.if_icmp .ge 153, 3) := by decide +kernel
theorem dX12_layConvergents_22 : decode cX12_layConvergents 22 = .ok (.aload_n 0, 1) := by decide +kernel
theorem dX12_layConvergents_23 : decode cX12_layConvergents 23 = .ok (.getfield 141, 3) := by decide +kernel
theorem dX12_layConvergents_26 : decode cX12_layConvergents 26 = .ok (.ifCond .ne 146, 3) := by decide +kernel
theorem dX12_layConvergents_29 : decode cX12_layConvergents 29 = .ok (.aload_n 0, 1) := by decide +kernel
theorem dX12_layConvergents_30 : decode cX12_layConvergents 30 = .ok (.getfield 47, 3) := by decide +kernel
theorem dX12_layConvergents_33 : decode cX12_layConvergents 33 = .ok (.iload_n 2, 1) := by decide +kernel
theorem dX12_layConvergents_34 : decode cX12_layConvergents 34 = .ok (.aload_n 0, 1) := by decide +kernel
theorem dX12_layConvergents_35 : decode cX12_layConvergents 35 = .ok (.iload_n 2, 1) := by decide +kernel
theorem dX12_layConvergents_36 : decode cX12_layConvergents 36 = .ok (.ifCond .ne 7, 3) := by decide +kernel
theorem dX12_layConvergents_39 : decode cX12_layConvergents 39 = .ok (.lconst 1, 1) := by decide +kernel
theorem dX12_layConvergents_40 : decode cX12_layConvergents 40 = .ok (.goto 11, 3) := by decide +kernel
theorem dX12_layConvergents_43 : decode cX12_layConvergents 43 = .ok (.aload_n 0, 1) := by decide +kernel
theorem dX12_layConvergents_44 : decode cX12_layConvergents 44 = .ok (.getfield 47, 3) := by decide +kernel
theorem dX12_layConvergents_47 : decode cX12_layConvergents 47 = .ok (.iload_n 2, 1) := by decide +kernel
theorem dX12_layConvergents_48 : decode cX12_layConvergents 48 = .ok (.iconst 1, 1) := by decide +kernel
theorem dX12_layConvergents_49 : decode cX12_layConvergents 49 = .ok (.isub, 1) := by decide +kernel
theorem dX12_layConvergents_50 : decode cX12_layConvergents 50 = .ok (.laload, 1) := by decide +kernel
theorem dX12_layConvergents_51 : decode cX12_layConvergents 51 = .ok (.aload_n 0, 1) := by decide +kernel
theorem dX12_layConvergents_52 : decode cX12_layConvergents 52 = .ok (.iload_n 1, 1) := by decide +kernel
theorem dX12_layConvergents_53 : decode cX12_layConvergents 53 = .ok (.iload_n 2, 1) := by decide +kernel
theorem dX12_layConvergents_54 : decode cX12_layConvergents 54 = .ok (.invokevirtual 219, 3) := by decide +kernel
theorem dX12_layConvergents_57 : decode cX12_layConvergents 57 = .ok (.i2l, 1) := by decide +kernel
theorem dX12_layConvergents_58 : decode cX12_layConvergents 58 = .ok (.iload_n 2, 1) := by decide +kernel
theorem dX12_layConvergents_59 : decode cX12_layConvergents 59 = .ok (.ifCond .ne 7, 3) := by decide +kernel
theorem dX12_layConvergents_62 : decode cX12_layConvergents 62 = .ok (.lconst 0, 1) := by decide +kernel
theorem dX12_layConvergents_63 : decode cX12_layConvergents 63 = .ok (.goto 20, 3) := by decide +kernel
theorem dX12_layConvergents_66 : decode cX12_layConvergents 66 = .ok (.iload_n 2, 1) := by decide +kernel
theorem dX12_layConvergents_67 : decode cX12_layConvergents 67 = .ok (.iconst 1, 1) := by decide +kernel
theorem dX12_layConvergents_68 : decode cX12_layConvergents 68 = .ok (.if_icmp .ne 7, 3) := by decide +kernel
theorem dX12_layConvergents_71 : decode cX12_layConvergents 71 = .ok (.lconst 1, 1) := by decide +kernel
theorem dX12_layConvergents_72 : decode cX12_layConvergents 72 = .ok (.goto 11, 3) := by decide +kernel
theorem dX12_layConvergents_75 : decode cX12_layConvergents 75 = .ok (.aload_n 0, 1) := by decide +kernel
theorem dX12_layConvergents_76 : decode cX12_layConvergents 76 = .ok (.getfield 47, 3) := by decide +kernel
theorem dX12_layConvergents_79 : decode cX12_layConvergents 79 = .ok (.iload_n 2, 1) := by decide +kernel
theorem dX12_layConvergents_80 : decode cX12_layConvergents 80 = .ok (.iconst 2, 1) := by decide +kernel
theorem dX12_layConvergents_81 : decode cX12_layConvergents 81 = .ok (.isub, 1) := by decide +kernel
theorem dX12_layConvergents_82 : decode cX12_layConvergents 82 = .ok (.laload, 1) := by decide +kernel
theorem dX12_layConvergents_83 : decode cX12_layConvergents 83 = .ok (.invokevirtual 204, 3) := by decide +kernel
theorem dX12_layConvergents_86 : decode cX12_layConvergents 86 = .ok (.lastore, 1) := by decide +kernel
theorem dX12_layConvergents_87 : decode cX12_layConvergents 87 = .ok (.aload_n 0, 1) := by decide +kernel
theorem dX12_layConvergents_88 : decode cX12_layConvergents 88 = .ok (.getfield 50, 3) := by decide +kernel
theorem dX12_layConvergents_91 : decode cX12_layConvergents 91 = .ok (.iload_n 2, 1) := by decide +kernel
theorem dX12_layConvergents_92 : decode cX12_layConvergents 92 = .ok (.aload_n 0, 1) := by decide +kernel
theorem dX12_layConvergents_93 : decode cX12_layConvergents 93 = .ok (.iload_n 2, 1) := by decide +kernel
theorem dX12_layConvergents_94 : decode cX12_layConvergents 94 = .ok (.ifCond .ne 7, 3) := by decide +kernel
theorem dX12_layConvergents_97 : decode cX12_layConvergents 97 = .ok (.lconst 0, 1) := by decide +kernel
theorem dX12_layConvergents_98 : decode cX12_layConvergents 98 = .ok (.goto 11, 3) := by decide +kernel
theorem dX12_layConvergents_101 : decode cX12_layConvergents 101 = .ok (.aload_n 0, 1) := by decide +kernel
theorem dX12_layConvergents_102 : decode cX12_layConvergents 102 = .ok (.getfield 50, 3) := by decide +kernel
theorem dX12_layConvergents_105 : decode cX12_layConvergents 105 = .ok (.iload_n 2, 1) := by decide +kernel
theorem dX12_layConvergents_106 : decode cX12_layConvergents 106 = .ok (.iconst 1, 1) := by decide +kernel
theorem dX12_layConvergents_107 : decode cX12_layConvergents 107 = .ok (.isub, 1) := by decide +kernel
theorem dX12_layConvergents_108 : decode cX12_layConvergents 108 = .ok (.laload, 1) := by decide +kernel
theorem dX12_layConvergents_109 : decode cX12_layConvergents 109 = .ok (.aload_n 0, 1) := by decide +kernel
theorem dX12_layConvergents_110 : decode cX12_layConvergents 110 = .ok (.iload_n 1, 1) := by decide +kernel
theorem dX12_layConvergents_111 : decode cX12_layConvergents 111 = .ok (.iload_n 2, 1) := by decide +kernel
theorem dX12_layConvergents_112 : decode cX12_layConvergents 112 = .ok (.invokevirtual 219, 3) := by decide +kernel
theorem dX12_layConvergents_115 : decode cX12_layConvergents 115 = .ok (.i2l, 1) := by decide +kernel
theorem dX12_layConvergents_116 : decode cX12_layConvergents 116 = .ok (.iload_n 2, 1) := by decide +kernel
theorem dX12_layConvergents_117 : decode cX12_layConvergents 117 = .ok (.ifCond .ne 7, 3) := by decide +kernel
theorem dX12_layConvergents_120 : decode cX12_layConvergents 120 = .ok (.lconst 1, 1) := by decide +kernel
theorem dX12_layConvergents_121 : decode cX12_layConvergents 121 = .ok (.goto 20, 3) := by decide +kernel
theorem dX12_layConvergents_124 : decode cX12_layConvergents 124 = .ok (.iload_n 2, 1) := by decide +kernel
theorem dX12_layConvergents_125 : decode cX12_layConvergents 125 = .ok (.iconst 1, 1) := by decide +kernel
theorem dX12_layConvergents_126 : decode cX12_layConvergents 126 = .ok (.if_icmp .ne 7, 3) := by decide +kernel
theorem dX12_layConvergents_129 : decode cX12_layConvergents 129 = .ok (.lconst 0, 1) := by decide +kernel
theorem dX12_layConvergents_130 : decode cX12_layConvergents 130 = .ok (.goto 11, 3) := by decide +kernel
theorem dX12_layConvergents_133 : decode cX12_layConvergents 133 = .ok (.aload_n 0, 1) := by decide +kernel
theorem dX12_layConvergents_134 : decode cX12_layConvergents 134 = .ok (.getfield 50, 3) := by decide +kernel
theorem dX12_layConvergents_137 : decode cX12_layConvergents 137 = .ok (.iload_n 2, 1) := by decide +kernel
theorem dX12_layConvergents_138 : decode cX12_layConvergents 138 = .ok (.iconst 2, 1) := by decide +kernel
theorem dX12_layConvergents_139 : decode cX12_layConvergents 139 = .ok (.isub, 1) := by decide +kernel
theorem dX12_layConvergents_140 : decode cX12_layConvergents 140 = .ok (.laload, 1) := by decide +kernel
theorem dX12_layConvergents_141 : decode cX12_layConvergents 141 = .ok (.invokevirtual 204, 3) := by decide +kernel
theorem dX12_layConvergents_144 : decode cX12_layConvergents 144 = .ok (.lastore, 1) := by decide +kernel
theorem dX12_layConvergents_145 : decode cX12_layConvergents 145 = .ok (.aload_n 0, 1) := by decide +kernel
theorem dX12_layConvergents_146 : decode cX12_layConvergents 146 = .ok (.dup, 1) := by decide +kernel
theorem dX12_layConvergents_147 : decode cX12_layConvergents 147 = .ok (.getfield 323, 3) := by decide +kernel
theorem dX12_layConvergents_150 : decode cX12_layConvergents 150 = .ok (.aload_n 0, 1) := by decide +kernel
theorem dX12_layConvergents_151 : decode cX12_layConvergents 151 = .ok (.getfield 141, 3) := by decide +kernel
theorem dX12_layConvergents_154 : decode cX12_layConvergents 154 = .ok (.ifCond .eq 7, 3) := by decide +kernel
theorem dX12_layConvergents_157 : decode cX12_layConvergents 157 = .ok (.iconst 0, 1) := by decide +kernel
theorem dX12_layConvergents_158 : decode cX12_layConvergents 158 = .ok (.goto 4, 3) := by decide +kernel
theorem dX12_layConvergents_161 : decode cX12_layConvergents 161 = .ok (.iconst 1, 1) := by decide +kernel
theorem dX12_layConvergents_162 : decode cX12_layConvergents 162 = .ok (.iadd, 1) := by decide +kernel
theorem dX12_layConvergents_163 : decode cX12_layConvergents 163 = .ok (.putfield 323, 3) := by decide +kernel
theorem dX12_layConvergents_166 : decode cX12_layConvergents 166 = .ok (.iinc 2 1, 3) := by decide +kernel
theorem dX12_layConvergents_169 : decode cX12_layConvergents 169 = .ok (.goto (-157), 3) := by decide +kernel
theorem dX12_layConvergents_172 : decode cX12_layConvergents 172 = .ok (.return_, 1) := by decide +kernel
theorem dX12_convergent_0 : decode cX12_convergent 0 = .ok (.aload_n 0, 1) := by decide +kernel
theorem dX12_convergent_1 : decode cX12_convergent 1 = .ok (.iconst 0, 1) := by decide +kernel
theorem dX12_convergent_2 : decode cX12_convergent 2 = .ok (.putfield 73, 3) := by decide +kernel
theorem dX12_convergent_5 : decode cX12_convergent 5 = .ok (.iload_n 1, 1) := by decide +kernel
theorem dX12_convergent_6 : decode cX12_convergent 6 = .ok (.invokestatic 264, 3) := by decide +kernel
theorem dX12_convergent_9 : decode cX12_convergent 9 = .ok (.ifCond .eq 12, 3) := by decide +kernel
theorem dX12_convergent_12 : decode cX12_convergent 12 = .ok (.aload_n 0, 1) := by decide +kernel
theorem dX12_convergent_13 : decode cX12_convergent 13 = .ok (.iload_n 1, 1) := by decide +kernel
theorem dX12_convergent_14 : decode cX12_convergent 14 = .ok (.iload_n 2, 1) := by decide +kernel
theorem dX12_convergent_15 : decode cX12_convergent 15 = .ok (.invokevirtual 320, 3) := by decide +kernel
theorem dX12_convergent_18 : decode cX12_convergent 18 = .ok (.ifCond .ne 10, 3) := by decide +kernel
theorem dX12_convergent_21 : decode cX12_convergent 21 = .ok (.aload_n 0, 1) := by decide +kernel
theorem dX12_convergent_22 : decode cX12_convergent 22 = .ok (.iconst 1, 1) := by decide +kernel
theorem dX12_convergent_23 : decode cX12_convergent 23 = .ok (.invokevirtual 299, 3) := by decide +kernel
theorem dX12_convergent_26 : decode cX12_convergent 26 = .ok (.i2l, 1) := by decide +kernel
theorem dX12_convergent_27 : decode cX12_convergent 27 = .ok (.lreturn, 1) := by decide +kernel
theorem dX12_convergent_28 : decode cX12_convergent 28 = .ok (.aload_n 0, 1) := by decide +kernel
theorem dX12_convergent_29 : decode cX12_convergent 29 = .ok (.iload_n 1, 1) := by decide +kernel
theorem dX12_convergent_30 : decode cX12_convergent 30 = .ok (.invokevirtual 326, 3) := by decide +kernel
theorem dX12_convergent_33 : decode cX12_convergent 33 = .ok (.iload_n 2, 1) := by decide +kernel
theorem dX12_convergent_34 : decode cX12_convergent 34 = .ok (.aload_n 0, 1) := by decide +kernel
theorem dX12_convergent_35 : decode cX12_convergent 35 = .ok (.getfield 323, 3) := by decide +kernel
theorem dX12_convergent_38 : decode cX12_convergent 38 = .ok (.if_icmp .lt 7, 3) := by decide +kernel
theorem dX12_convergent_41 : decode cX12_convergent 41 = .ok (.ldc2_w 329, 3) := by decide +kernel
theorem dX12_convergent_44 : decode cX12_convergent 44 = .ok (.lreturn, 1) := by decide +kernel
theorem dX12_convergent_45 : decode cX12_convergent 45 = .ok (.iload_n 3, 1) := by decide +kernel
theorem dX12_convergent_46 : decode cX12_convergent 46 = .ok (.ifCond .eq 12, 3) := by decide +kernel
theorem dX12_convergent_49 : decode cX12_convergent 49 = .ok (.aload_n 0, 1) := by decide +kernel
theorem dX12_convergent_50 : decode cX12_convergent 50 = .ok (.getfield 50, 3) := by decide +kernel
theorem dX12_convergent_53 : decode cX12_convergent 53 = .ok (.iload_n 2, 1) := by decide +kernel
theorem dX12_convergent_54 : decode cX12_convergent 54 = .ok (.laload, 1) := by decide +kernel
theorem dX12_convergent_55 : decode cX12_convergent 55 = .ok (.goto 9, 3) := by decide +kernel
theorem dX12_convergent_58 : decode cX12_convergent 58 = .ok (.aload_n 0, 1) := by decide +kernel
theorem dX12_convergent_59 : decode cX12_convergent 59 = .ok (.getfield 47, 3) := by decide +kernel
theorem dX12_convergent_62 : decode cX12_convergent 62 = .ok (.iload_n 2, 1) := by decide +kernel
theorem dX12_convergent_63 : decode cX12_convergent 63 = .ok (.laload, 1) := by decide +kernel
theorem dX12_convergent_64 : decode cX12_convergent 64 = .ok (.lreturn, 1) := by decide +kernel
theorem dX12_nearest_0 : decode cX12_nearest 0 = .ok (.aload_n 0, 1) := by decide +kernel
theorem dX12_nearest_1 : decode cX12_nearest 1 = .ok (.iload_n 1, 1) := by decide +kernel
theorem dX12_nearest_2 : decode cX12_nearest 2 = .ok (.invokestatic 264, 3) := by decide +kernel
theorem dX12_nearest_5 : decode cX12_nearest 5 = .ok (.ifCond .eq 12, 3) := by decide +kernel
theorem dX12_nearest_8 : decode cX12_nearest 8 = .ok (.aload_n 0, 1) := by decide +kernel
theorem dX12_nearest_9 : decode cX12_nearest 9 = .ok (.getfield 19, 3) := by decide +kernel
theorem dX12_nearest_12 : decode cX12_nearest 12 = .ok (.iload_n 1, 1) := by decide +kernel
theorem dX12_nearest_13 : decode cX12_nearest 13 = .ok (.iaload, 1) := by decide +kernel
theorem dX12_nearest_14 : decode cX12_nearest 14 = .ok (.ifCond .ne 7, 3) := by decide +kernel
theorem dX12_nearest_17 : decode cX12_nearest 17 = .ok (.iconst 1, 1) := by decide +kernel
theorem dX12_nearest_18 : decode cX12_nearest 18 = .ok (.goto 13, 3) := by decide +kernel
theorem dX12_nearest_21 : decode cX12_nearest 21 = .ok (.iload_n 2, 1) := by decide +kernel
theorem dX12_nearest_22 : decode cX12_nearest 22 = .ok (.iconst 1, 1) := by decide +kernel
theorem dX12_nearest_23 : decode cX12_nearest 23 = .ok (.if_icmp .ge 7, 3) := by decide +kernel
theorem dX12_nearest_26 : decode cX12_nearest 26 = .ok (.iconst 2, 1) := by decide +kernel
theorem dX12_nearest_27 : decode cX12_nearest 27 = .ok (.goto 4, 3) := by decide +kernel
theorem dX12_nearest_30 : decode cX12_nearest 30 = .ok (.iconst 0, 1) := by decide +kernel
theorem dX12_nearest_31 : decode cX12_nearest 31 = .ok (.putfield 73, 3) := by decide +kernel
theorem dX12_nearest_34 : decode cX12_nearest 34 = .ok (.aload_n 0, 1) := by decide +kernel
theorem dX12_nearest_35 : decode cX12_nearest 35 = .ok (.getfield 73, 3) := by decide +kernel
theorem dX12_nearest_38 : decode cX12_nearest 38 = .ok (.ifCond .le 5, 3) := by decide +kernel
theorem dX12_nearest_41 : decode cX12_nearest 41 = .ok (.iconst 0, 1) := by decide +kernel
theorem dX12_nearest_42 : decode cX12_nearest 42 = .ok (.ireturn, 1) := by decide +kernel
theorem dX12_nearest_43 : decode cX12_nearest 43 = .ok (.aload_n 0, 1) := by decide +kernel
theorem dX12_nearest_44 : decode cX12_nearest 44 = .ok (.iload_n 1, 1) := by decide +kernel
theorem dX12_nearest_45 : decode cX12_nearest 45 = .ok (.invokevirtual 326, 3) := by decide +kernel
theorem dX12_nearest_48 : decode cX12_nearest 48 = .ok (.iconst 0, 1) := by decide +kernel
theorem dX12_nearest_49 : decode cX12_nearest 49 = .ok (.istore_n 3, 1) := by decide +kernel
theorem dX12_nearest_50 : decode cX12_nearest 50 = .ok (.iconst 0, 1) := by decide +kernel
theorem dX12_nearest_51 : decode cX12_nearest 51 = .ok (.istore 4, 2) := by decide +kernel
theorem dX12_nearest_53 : decode cX12_nearest 53 = .ok (.iload 4, 2) := by decide +kernel
theorem dX12_nearest_55 : decode cX12_nearest 55 = .ok (.aload_n 0, 1) := by decide +kernel
theorem dX12_nearest_56 : decode cX12_nearest 56 = .ok (.getfield 323, 3) := by decide +kernel
theorem dX12_nearest_59 : decode cX12_nearest 59 = .ok (.if_icmp .ge 25, 3) := by decide +kernel
theorem dX12_nearest_62 : decode cX12_nearest 62 = .ok (.aload_n 0, 1) := by decide +kernel
theorem dX12_nearest_63 : decode cX12_nearest 63 = .ok (.getfield 50, 3) := by decide +kernel
theorem dX12_nearest_66 : decode cX12_nearest 66 = .ok (.iload 4, 2) := by decide +kernel
theorem dX12_nearest_68 : decode cX12_nearest 68 = .ok (.laload, 1) := by decide +kernel
theorem dX12_nearest_69 : decode cX12_nearest 69 = .ok (.iload_n 2, 1) := by decide +kernel
theorem dX12_nearest_70 : decode cX12_nearest 70 = .ok (.i2l, 1) := by decide +kernel
theorem dX12_nearest_71 : decode cX12_nearest 71 = .ok (.lcmp, 1) := by decide +kernel
theorem dX12_nearest_72 : decode cX12_nearest 72 = .ok (.ifCond .gt 6, 3) := by decide +kernel
theorem dX12_nearest_75 : decode cX12_nearest 75 = .ok (.iload 4, 2) := by decide +kernel
theorem dX12_nearest_77 : decode cX12_nearest 77 = .ok (.istore_n 3, 1) := by decide +kernel
theorem dX12_nearest_78 : decode cX12_nearest 78 = .ok (.iinc 4 1, 3) := by decide +kernel
theorem dX12_nearest_81 : decode cX12_nearest 81 = .ok (.goto (-28), 3) := by decide +kernel
theorem dX12_nearest_84 : decode cX12_nearest 84 = .ok (.iload_n 3, 1) := by decide +kernel
theorem dX12_nearest_85 : decode cX12_nearest 85 = .ok (.ireturn, 1) := by decide +kernel
theorem dX12_mediant_0 : decode cX12_mediant 0 = .ok (.aload_n 0, 1) := by decide +kernel
theorem dX12_mediant_1 : decode cX12_mediant 1 = .ok (.iconst 0, 1) := by decide +kernel
theorem dX12_mediant_2 : decode cX12_mediant 2 = .ok (.putfield 73, 3) := by decide +kernel
theorem dX12_mediant_5 : decode cX12_mediant 5 = .ok (.iload_n 1, 1) := by decide +kernel
theorem dX12_mediant_6 : decode cX12_mediant 6 = .ok (.invokestatic 264, 3) := by decide +kernel
theorem dX12_mediant_9 : decode cX12_mediant 9 = .ok (.ifCond .eq 42, 3) := by decide +kernel
theorem dX12_mediant_12 : decode cX12_mediant 12 = .ok (.iload_n 2, 1) := by decide +kernel
theorem dX12_mediant_13 : decode cX12_mediant 13 = .ok (.ifCond .lt 38, 3) := by decide +kernel
theorem dX12_mediant_16 : decode cX12_mediant 16 = .ok (.iload_n 2, 1) := by decide +kernel
theorem dX12_mediant_17 : decode cX12_mediant 17 = .ok (.bipush 60, 2) := by decide +kernel
theorem dX12_mediant_19 : decode cX12_mediant 19 = .ok (.if_icmp .ge 32, 3) := by decide +kernel
theorem dX12_mediant_22 : decode cX12_mediant 22 = .ok (.aload_n 0, 1) := by decide +kernel
theorem dX12_mediant_23 : decode cX12_mediant 23 = .ok (.iload_n 1, 1) := by decide +kernel
theorem dX12_mediant_24 : decode cX12_mediant 24 = .ok (.iload_n 2, 1) := by decide +kernel
theorem dX12_mediant_25 : decode cX12_mediant 25 = .ok (.iconst 2, 1) := by decide +kernel
theorem dX12_mediant_26 : decode cX12_mediant 26 = .ok (.iadd, 1) := by decide +kernel
theorem dX12_mediant_27 : decode cX12_mediant 27 = .ok (.invokevirtual 320, 3) := by decide +kernel
theorem dX12_mediant_30 : decode cX12_mediant 30 = .ok (.ifCond .eq 21, 3) := by decide +kernel
theorem dX12_mediant_33 : decode cX12_mediant 33 = .ok (.iload_n 3, 1) := by decide +kernel
theorem dX12_mediant_34 : decode cX12_mediant 34 = .ok (.i2l, 1) := by decide +kernel
theorem dX12_mediant_35 : decode cX12_mediant 35 = .ok (.lconst 0, 1) := by decide +kernel
theorem dX12_mediant_36 : decode cX12_mediant 36 = .ok (.aload_n 0, 1) := by decide +kernel
theorem dX12_mediant_37 : decode cX12_mediant 37 = .ok (.iload_n 1, 1) := by decide +kernel
theorem dX12_mediant_38 : decode cX12_mediant 38 = .ok (.iload_n 2, 1) := by decide +kernel
theorem dX12_mediant_39 : decode cX12_mediant 39 = .ok (.iconst 2, 1) := by decide +kernel
theorem dX12_mediant_40 : decode cX12_mediant 40 = .ok (.iadd, 1) := by decide +kernel
theorem dX12_mediant_41 : decode cX12_mediant 41 = .ok (.invokevirtual 219, 3) := by decide +kernel
theorem dX12_mediant_44 : decode cX12_mediant 44 = .ok (.i2l, 1) := by decide +kernel
theorem dX12_mediant_45 : decode cX12_mediant 45 = .ok (.invokestatic 78, 3) := by decide +kernel
theorem dX12_mediant_48 : decode cX12_mediant 48 = .ok (.ifCond .ne 10, 3) := by decide +kernel
theorem dX12_mediant_51 : decode cX12_mediant 51 = .ok (.aload_n 0, 1) := by decide +kernel
theorem dX12_mediant_52 : decode cX12_mediant 52 = .ok (.iconst 1, 1) := by decide +kernel
theorem dX12_mediant_53 : decode cX12_mediant 53 = .ok (.invokevirtual 299, 3) := by decide +kernel
theorem dX12_mediant_56 : decode cX12_mediant 56 = .ok (.i2l, 1) := by decide +kernel
theorem dX12_mediant_57 : decode cX12_mediant 57 = .ok (.lreturn, 1) := by decide +kernel
theorem dX12_mediant_58 : decode cX12_mediant 58 = .ok (.aload_n 0, 1) := by decide +kernel
theorem dX12_mediant_59 : decode cX12_mediant 59 = .ok (.iload_n 1, 1) := by decide +kernel
theorem dX12_mediant_60 : decode cX12_mediant 60 = .ok (.invokevirtual 326, 3) := by decide +kernel
theorem dX12_mediant_63 : decode cX12_mediant 63 = .ok (.iload_n 2, 1) := by decide +kernel
theorem dX12_mediant_64 : decode cX12_mediant 64 = .ok (.iconst 1, 1) := by decide +kernel
theorem dX12_mediant_65 : decode cX12_mediant 65 = .ok (.iadd, 1) := by decide +kernel
theorem dX12_mediant_66 : decode cX12_mediant 66 = .ok (.aload_n 0, 1) := by decide +kernel
theorem dX12_mediant_67 : decode cX12_mediant 67 = .ok (.getfield 323, 3) := by decide +kernel
theorem dX12_mediant_70 : decode cX12_mediant 70 = .ok (.if_icmp .lt 7, 3) := by decide +kernel
theorem dX12_mediant_73 : decode cX12_mediant 73 = .ok (.ldc2_w 329, 3) := by decide +kernel
theorem dX12_mediant_76 : decode cX12_mediant 76 = .ok (.lreturn, 1) := by decide +kernel
theorem dX12_mediant_77 : decode cX12_mediant 77 = .ok (.aload_n 0, 1) := by decide +kernel
theorem dX12_mediant_78 : decode cX12_mediant 78 = .ok (.iconst 0, 1) := by decide +kernel
theorem dX12_mediant_79 : decode cX12_mediant 79 = .ok (.putfield 141, 3) := by decide +kernel
theorem dX12_mediant_82 : decode cX12_mediant 82 = .ok (.aload_n 0, 1) := by decide +kernel
theorem dX12_mediant_83 : decode cX12_mediant 83 = .ok (.aload_n 0, 1) := by decide +kernel
theorem dX12_mediant_84 : decode cX12_mediant 84 = .ok (.getfield 47, 3) := by decide +kernel
theorem dX12_mediant_87 : decode cX12_mediant 87 = .ok (.iload_n 2, 1) := by decide +kernel
theorem dX12_mediant_88 : decode cX12_mediant 88 = .ok (.iconst 1, 1) := by decide +kernel
theorem dX12_mediant_89 : decode cX12_mediant 89 = .ok (.iadd, 1) := by decide +kernel
theorem dX12_mediant_90 : decode cX12_mediant 90 = .ok (.laload, 1) := by decide +kernel
theorem dX12_mediant_91 : decode cX12_mediant 91 = .ok (.iload_n 3, 1) := by decide +kernel
theorem dX12_mediant_92 : decode cX12_mediant 92 = .ok (.i2l, 1) := by decide +kernel
theorem dX12_mediant_93 : decode cX12_mediant 93 = .ok (.aload_n 0, 1) := by decide +kernel
theorem dX12_mediant_94 : decode cX12_mediant 94 = .ok (.getfield 47, 3) := by decide +kernel
theorem dX12_mediant_97 : decode cX12_mediant 97 = .ok (.iload_n 2, 1) := by decide +kernel
theorem dX12_mediant_98 : decode cX12_mediant 98 = .ok (.laload, 1) := by decide +kernel
theorem dX12_mediant_99 : decode cX12_mediant 99 = .ok (.invokevirtual 204, 3) := by decide +kernel
theorem dX12_mediant_102 : decode cX12_mediant 102 = .ok (.lstore 5, 2) := by decide +kernel
theorem dX12_mediant_104 : decode cX12_mediant 104 = .ok (.aload_n 0, 1) := by decide +kernel
theorem dX12_mediant_105 : decode cX12_mediant 105 = .ok (.aload_n 0, 1) := by decide +kernel
theorem dX12_mediant_106 : decode cX12_mediant 106 = .ok (.getfield 50, 3) := by decide +kernel
theorem dX12_mediant_109 : decode cX12_mediant 109 = .ok (.iload_n 2, 1) := by decide +kernel
theorem dX12_mediant_110 : decode cX12_mediant 110 = .ok (.iconst 1, 1) := by decide +kernel
theorem dX12_mediant_111 : decode cX12_mediant 111 = .ok (.iadd, 1) := by decide +kernel
theorem dX12_mediant_112 : decode cX12_mediant 112 = .ok (.laload, 1) := by decide +kernel
theorem dX12_mediant_113 : decode cX12_mediant 113 = .ok (.iload_n 3, 1) := by decide +kernel
theorem dX12_mediant_114 : decode cX12_mediant 114 = .ok (.i2l, 1) := by decide +kernel
theorem dX12_mediant_115 : decode cX12_mediant 115 = .ok (.aload_n 0, 1) := by decide +kernel
theorem dX12_mediant_116 : decode cX12_mediant 116 = .ok (.getfield 50, 3) := by decide +kernel
theorem dX12_mediant_119 : decode cX12_mediant 119 = .ok (.iload_n 2, 1) := by decide +kernel
theorem dX12_mediant_120 : decode cX12_mediant 120 = .ok (.laload, 1) := by decide +kernel
theorem dX12_mediant_121 : decode cX12_mediant 121 = .ok (.invokevirtual 204, 3) := by decide +kernel
theorem dX12_mediant_124 : decode cX12_mediant 124 = .ok (.lstore 7, 2) := by decide +kernel
theorem dX12_mediant_126 : decode cX12_mediant 126 = .ok (.aload_n 0, 1) := by decide +kernel
theorem dX12_mediant_127 : decode cX12_mediant 127 = .ok (.getfield 141, 3) := by decide +kernel
theorem dX12_mediant_130 : decode cX12_mediant 130 = .ok (.ifCond .eq 7, 3) := by decide +kernel
theorem dX12_mediant_133 : decode cX12_mediant 133 = .ok (.ldc2_w 329, 3) := by decide +kernel
theorem dX12_mediant_136 : decode cX12_mediant 136 = .ok (.lreturn, 1) := by decide +kernel
theorem dX12_mediant_137 : decode cX12_mediant 137 = .ok (.iload 4, 2) := by decide +kernel
theorem dX12_mediant_139 : decode cX12_mediant 139 = .ok (.ifCond .eq 8, 3) := by decide +kernel
theorem dX12_mediant_142 : decode cX12_mediant 142 = .ok (.lload 7, 2) := by decide +kernel
theorem dX12_mediant_144 : decode cX12_mediant 144 = .ok (.goto 5, 3) := by decide +kernel
theorem dX12_mediant_147 : decode cX12_mediant 147 = .ok (.lload 5, 2) := by decide +kernel
theorem dX12_mediant_149 : decode cX12_mediant 149 = .ok (.lreturn, 1) := by decide +kernel
theorem dX12_alikeTo_0 : decode cX12_alikeTo 0 = .ok (.iconst 0, 1) := by decide +kernel
theorem dX12_alikeTo_1 : decode cX12_alikeTo 1 = .ok (.istore_n 3, 1) := by decide +kernel
theorem dX12_alikeTo_2 : decode cX12_alikeTo 2 = .ok (.aload_n 0, 1) := by decide +kernel
theorem dX12_alikeTo_3 : decode cX12_alikeTo 3 = .ok (.iload_n 1, 1) := by decide +kernel
theorem dX12_alikeTo_4 : decode cX12_alikeTo 4 = .ok (.iload_n 3, 1) := by decide +kernel
theorem dX12_alikeTo_5 : decode cX12_alikeTo 5 = .ok (.invokevirtual 320, 3) := by decide +kernel
theorem dX12_alikeTo_8 : decode cX12_alikeTo 8 = .ok (.ifCond .eq 33, 3) := by decide +kernel
theorem dX12_alikeTo_11 : decode cX12_alikeTo 11 = .ok (.aload_n 0, 1) := by decide +kernel
theorem dX12_alikeTo_12 : decode cX12_alikeTo 12 = .ok (.iload_n 2, 1) := by decide +kernel
theorem dX12_alikeTo_13 : decode cX12_alikeTo 13 = .ok (.iload_n 3, 1) := by decide +kernel
theorem dX12_alikeTo_14 : decode cX12_alikeTo 14 = .ok (.invokevirtual 320, 3) := by decide +kernel
theorem dX12_alikeTo_17 : decode cX12_alikeTo 17 = .ok (.ifCond .eq 24, 3) := by decide +kernel
theorem dX12_alikeTo_20 : decode cX12_alikeTo 20 = .ok (.aload_n 0, 1) := by decide +kernel
theorem dX12_alikeTo_21 : decode cX12_alikeTo 21 = .ok (.iload_n 1, 1) := by decide +kernel
theorem dX12_alikeTo_22 : decode cX12_alikeTo 22 = .ok (.iload_n 3, 1) := by decide +kernel
theorem dX12_alikeTo_23 : decode cX12_alikeTo 23 = .ok (.invokevirtual 219, 3) := by decide +kernel
theorem dX12_alikeTo_26 : decode cX12_alikeTo 26 = .ok (.aload_n 0, 1) := by decide +kernel
theorem dX12_alikeTo_27 : decode cX12_alikeTo 27 = .ok (.iload_n 2, 1) := by decide +kernel
theorem dX12_alikeTo_28 : decode cX12_alikeTo 28 = .ok (.iload_n 3, 1) := by decide +kernel
theorem dX12_alikeTo_29 : decode cX12_alikeTo 29 = .ok (.invokevirtual 219, 3) := by decide +kernel
theorem dX12_alikeTo_32 : decode cX12_alikeTo 32 = .ok (.if_icmp .ne 9, 3) := by decide +kernel
theorem dX12_alikeTo_35 : decode cX12_alikeTo 35 = .ok (.iinc 3 1, 3) := by decide +kernel
theorem dX12_alikeTo_38 : decode cX12_alikeTo 38 = .ok (.goto (-36), 3) := by decide +kernel
theorem dX12_alikeTo_41 : decode cX12_alikeTo 41 = .ok (.iload_n 3, 1) := by decide +kernel
theorem dX12_alikeTo_42 : decode cX12_alikeTo 42 = .ok (.ireturn, 1) := by decide +kernel
theorem dX12_byPlace_0 : decode cX12_byPlace 0 = .ok (.iload_n 0, 1) := by decide +kernel
theorem dX12_byPlace_1 : decode cX12_byPlace 1 = .ok (.iconst 2, 1) := by decide +kernel
theorem dX12_byPlace_2 : decode cX12_byPlace 2 = .ok (.irem, 1) := by decide +kernel
theorem dX12_byPlace_3 : decode cX12_byPlace 3 = .ok (.ifCond .ne 7, 3) := by decide +kernel
theorem dX12_byPlace_6 : decode cX12_byPlace 6 = .ok (.iconst 1, 1) := by decide +kernel
theorem dX12_byPlace_7 : decode cX12_byPlace 7 = .ok (.goto 4, 3) := by decide +kernel
theorem dX12_byPlace_10 : decode cX12_byPlace 10 = .ok (.iconst 0, 1) := by decide +kernel
theorem dX12_byPlace_11 : decode cX12_byPlace 11 = .ok (.iload_n 1, 1) := by decide +kernel
theorem dX12_byPlace_12 : decode cX12_byPlace 12 = .ok (.if_icmp .ne 7, 3) := by decide +kernel
theorem dX12_byPlace_15 : decode cX12_byPlace 15 = .ok (.iconst (-1), 1) := by decide +kernel
theorem dX12_byPlace_16 : decode cX12_byPlace 16 = .ok (.goto 4, 3) := by decide +kernel
theorem dX12_byPlace_19 : decode cX12_byPlace 19 = .ok (.iconst 1, 1) := by decide +kernel
theorem dX12_byPlace_20 : decode cX12_byPlace 20 = .ok (.ireturn, 1) := by decide +kernel
theorem dX12_compare_0 : decode cX12_compare 0 = .ok (.aload_n 0, 1) := by decide +kernel
theorem dX12_compare_1 : decode cX12_compare 1 = .ok (.iconst 0, 1) := by decide +kernel
theorem dX12_compare_2 : decode cX12_compare 2 = .ok (.putfield 73, 3) := by decide +kernel
theorem dX12_compare_5 : decode cX12_compare 5 = .ok (.iload_n 1, 1) := by decide +kernel
theorem dX12_compare_6 : decode cX12_compare 6 = .ok (.invokestatic 264, 3) := by decide +kernel
theorem dX12_compare_9 : decode cX12_compare 9 = .ok (.ifCond .eq 10, 3) := by decide +kernel
theorem dX12_compare_12 : decode cX12_compare 12 = .ok (.iload_n 2, 1) := by decide +kernel
theorem dX12_compare_13 : decode cX12_compare 13 = .ok (.invokestatic 264, 3) := by decide +kernel
theorem dX12_compare_16 : decode cX12_compare 16 = .ok (.ifCond .ne 9, 3) := by decide +kernel
theorem dX12_compare_19 : decode cX12_compare 19 = .ok (.aload_n 0, 1) := by decide +kernel
theorem dX12_compare_20 : decode cX12_compare 20 = .ok (.iconst 1, 1) := by decide +kernel
theorem dX12_compare_21 : decode cX12_compare 21 = .ok (.invokevirtual 299, 3) := by decide +kernel
theorem dX12_compare_24 : decode cX12_compare 24 = .ok (.ireturn, 1) := by decide +kernel
theorem dX12_compare_25 : decode cX12_compare 25 = .ok (.aload_n 0, 1) := by decide +kernel
theorem dX12_compare_26 : decode cX12_compare 26 = .ok (.iload_n 1, 1) := by decide +kernel
theorem dX12_compare_27 : decode cX12_compare 27 = .ok (.iload_n 2, 1) := by decide +kernel
theorem dX12_compare_28 : decode cX12_compare 28 = .ok (.invokevirtual 331, 3) := by decide +kernel
theorem dX12_compare_31 : decode cX12_compare 31 = .ok (.istore_n 3, 1) := by decide +kernel
theorem dX12_compare_32 : decode cX12_compare 32 = .ok (.aload_n 0, 1) := by decide +kernel
theorem dX12_compare_33 : decode cX12_compare 33 = .ok (.iload_n 1, 1) := by decide +kernel
theorem dX12_compare_34 : decode cX12_compare 34 = .ok (.iload_n 3, 1) := by decide +kernel
theorem dX12_compare_35 : decode cX12_compare 35 = .ok (.invokevirtual 320, 3) := by decide +kernel
theorem dX12_compare_38 : decode cX12_compare 38 = .ok (.istore 4, 2) := by decide +kernel
theorem dX12_compare_40 : decode cX12_compare 40 = .ok (.aload_n 0, 1) := by decide +kernel
theorem dX12_compare_41 : decode cX12_compare 41 = .ok (.iload_n 2, 1) := by decide +kernel
theorem dX12_compare_42 : decode cX12_compare 42 = .ok (.iload_n 3, 1) := by decide +kernel
theorem dX12_compare_43 : decode cX12_compare 43 = .ok (.invokevirtual 320, 3) := by decide +kernel
theorem dX12_compare_46 : decode cX12_compare 46 = .ok (.istore 5, 2) := by decide +kernel
theorem dX12_compare_48 : decode cX12_compare 48 = .ok (.iload 4, 2) := by decide +kernel
theorem dX12_compare_50 : decode cX12_compare 50 = .ok (.ifCond .eq 33, 3) := by decide +kernel
theorem dX12_compare_53 : decode cX12_compare 53 = .ok (.iload 5, 2) := by decide +kernel
theorem dX12_compare_55 : decode cX12_compare 55 = .ok (.ifCond .eq 28, 3) := by decide +kernel
theorem dX12_compare_58 : decode cX12_compare 58 = .ok (.iload_n 3, 1) := by decide +kernel
theorem dX12_compare_59 : decode cX12_compare 59 = .ok (.aload_n 0, 1) := by decide +kernel
theorem dX12_compare_60 : decode cX12_compare 60 = .ok (.iload_n 1, 1) := by decide +kernel
theorem dX12_compare_61 : decode cX12_compare 61 = .ok (.iload_n 3, 1) := by decide +kernel
theorem dX12_compare_62 : decode cX12_compare 62 = .ok (.invokevirtual 219, 3) := by decide +kernel
theorem dX12_compare_65 : decode cX12_compare 65 = .ok (.aload_n 0, 1) := by decide +kernel
theorem dX12_compare_66 : decode cX12_compare 66 = .ok (.iload_n 2, 1) := by decide +kernel
theorem dX12_compare_67 : decode cX12_compare 67 = .ok (.iload_n 3, 1) := by decide +kernel
theorem dX12_compare_68 : decode cX12_compare 68 = .ok (.invokevirtual 219, 3) := by decide +kernel
theorem dX12_compare_71 : decode cX12_compare 71 = .ok (.if_icmp .ge 7, 3) := by decide +kernel
theorem dX12_compare_74 : decode cX12_compare 74 = .ok (.iconst 1, 1) := by decide +kernel
theorem dX12_compare_75 : decode cX12_compare 75 = .ok (.goto 4, 3) := by decide +kernel
theorem dX12_compare_78 : decode cX12_compare 78 = .ok (.iconst 0, 1) := by decide +kernel
theorem dX12_compare_79 : decode cX12_compare 79 = .ok (.invokestatic 334, 3) := by decide +kernel
theorem dX12_compare_82 : decode cX12_compare 82 = .ok (.ireturn, 1) := by decide +kernel
theorem dX12_compare_83 : decode cX12_compare 83 = .ok (.iload 4, 2) := by decide +kernel
theorem dX12_compare_85 : decode cX12_compare 85 = .ok (.ifCond .ne 13, 3) := by decide +kernel
theorem dX12_compare_88 : decode cX12_compare 88 = .ok (.aload_n 0, 1) := by decide +kernel
theorem dX12_compare_89 : decode cX12_compare 89 = .ok (.getfield 22, 3) := by decide +kernel
theorem dX12_compare_92 : decode cX12_compare 92 = .ok (.iload_n 1, 1) := by decide +kernel
theorem dX12_compare_93 : decode cX12_compare 93 = .ok (.iaload, 1) := by decide +kernel
theorem dX12_compare_94 : decode cX12_compare 94 = .ok (.iconst 1, 1) := by decide +kernel
theorem dX12_compare_95 : decode cX12_compare 95 = .ok (.if_icmp .ne 18, 3) := by decide +kernel
theorem dX12_compare_98 : decode cX12_compare 98 = .ok (.iload 5, 2) := by decide +kernel
theorem dX12_compare_100 : decode cX12_compare 100 = .ok (.ifCond .ne 16, 3) := by decide +kernel
theorem dX12_compare_103 : decode cX12_compare 103 = .ok (.aload_n 0, 1) := by decide +kernel
theorem dX12_compare_104 : decode cX12_compare 104 = .ok (.getfield 22, 3) := by decide +kernel
theorem dX12_compare_107 : decode cX12_compare 107 = .ok (.iload_n 2, 1) := by decide +kernel
theorem dX12_compare_108 : decode cX12_compare 108 = .ok (.iaload, 1) := by decide +kernel
theorem dX12_compare_109 : decode cX12_compare 109 = .ok (.iconst 1, 1) := by decide +kernel
theorem dX12_compare_110 : decode cX12_compare 110 = .ok (.if_icmp .eq 6, 3) := by decide +kernel
theorem dX12_compare_113 : decode cX12_compare 113 = .ok (.bipush (-2), 2) := by decide +kernel
theorem dX12_compare_115 : decode cX12_compare 115 = .ok (.ireturn, 1) := by decide +kernel
theorem dX12_compare_116 : decode cX12_compare 116 = .ok (.iload 4, 2) := by decide +kernel
theorem dX12_compare_118 : decode cX12_compare 118 = .ok (.ifCond .ne 12, 3) := by decide +kernel
theorem dX12_compare_121 : decode cX12_compare 121 = .ok (.iload 5, 2) := by decide +kernel
theorem dX12_compare_123 : decode cX12_compare 123 = .ok (.ifCond .ne 7, 3) := by decide +kernel
theorem dX12_compare_126 : decode cX12_compare 126 = .ok (.iconst 0, 1) := by decide +kernel
theorem dX12_compare_127 : decode cX12_compare 127 = .ok (.goto 9, 3) := by decide +kernel
theorem dX12_compare_130 : decode cX12_compare 130 = .ok (.iload_n 3, 1) := by decide +kernel
theorem dX12_compare_131 : decode cX12_compare 131 = .ok (.iload 4, 2) := by decide +kernel
theorem dX12_compare_133 : decode cX12_compare 133 = .ok (.invokestatic 334, 3) := by decide +kernel
theorem dX12_compare_136 : decode cX12_compare 136 = .ok (.ireturn, 1) := by decide +kernel
theorem dX12_alike_0 : decode cX12_alike 0 = .ok (.aload_n 0, 1) := by decide +kernel
theorem dX12_alike_1 : decode cX12_alike 1 = .ok (.iconst 0, 1) := by decide +kernel
theorem dX12_alike_2 : decode cX12_alike 2 = .ok (.putfield 73, 3) := by decide +kernel
theorem dX12_alike_5 : decode cX12_alike 5 = .ok (.iload_n 1, 1) := by decide +kernel
theorem dX12_alike_6 : decode cX12_alike 6 = .ok (.invokestatic 264, 3) := by decide +kernel
theorem dX12_alike_9 : decode cX12_alike 9 = .ok (.ifCond .eq 19, 3) := by decide +kernel
theorem dX12_alike_12 : decode cX12_alike 12 = .ok (.iload_n 2, 1) := by decide +kernel
theorem dX12_alike_13 : decode cX12_alike 13 = .ok (.invokestatic 264, 3) := by decide +kernel
theorem dX12_alike_16 : decode cX12_alike 16 = .ok (.ifCond .eq 12, 3) := by decide +kernel
theorem dX12_alike_19 : decode cX12_alike 19 = .ok (.aload_n 0, 1) := by decide +kernel
theorem dX12_alike_20 : decode cX12_alike 20 = .ok (.iload_n 1, 1) := by decide +kernel
theorem dX12_alike_21 : decode cX12_alike 21 = .ok (.iload_n 2, 1) := by decide +kernel
theorem dX12_alike_22 : decode cX12_alike 22 = .ok (.invokevirtual 331, 3) := by decide +kernel
theorem dX12_alike_25 : decode cX12_alike 25 = .ok (.goto 8, 3) := by decide +kernel
theorem dX12_alike_28 : decode cX12_alike 28 = .ok (.aload_n 0, 1) := by decide +kernel
theorem dX12_alike_29 : decode cX12_alike 29 = .ok (.iconst 1, 1) := by decide +kernel
theorem dX12_alike_30 : decode cX12_alike 30 = .ok (.invokevirtual 299, 3) := by decide +kernel
theorem dX12_alike_33 : decode cX12_alike 33 = .ok (.ireturn, 1) := by decide +kernel
theorem dX12_comesAgain_0 : decode cX12_comesAgain 0 = .ok (.iload_n 2, 1) := by decide +kernel
theorem dX12_comesAgain_1 : decode cX12_comesAgain 1 = .ok (.istore 4, 2) := by decide +kernel
theorem dX12_comesAgain_3 : decode cX12_comesAgain 3 = .ok (.iload 4, 2) := by decide +kernel
theorem dX12_comesAgain_5 : decode cX12_comesAgain 5 = .ok (.iload_n 3, 1) := by decide +kernel
theorem dX12_comesAgain_6 : decode cX12_comesAgain 6 = .ok (.iadd, 1) := by decide +kernel
theorem dX12_comesAgain_7 : decode cX12_comesAgain 7 = .ok (.bipush 60, 2) := by decide +kernel
theorem dX12_comesAgain_9 : decode cX12_comesAgain 9 = .ok (.if_icmp .ge 30, 3) := by decide +kernel
theorem dX12_comesAgain_12 : decode cX12_comesAgain 12 = .ok (.aload_n 0, 1) := by decide +kernel
theorem dX12_comesAgain_13 : decode cX12_comesAgain 13 = .ok (.iload_n 1, 1) := by decide +kernel
theorem dX12_comesAgain_14 : decode cX12_comesAgain 14 = .ok (.iload 4, 2) := by decide +kernel
theorem dX12_comesAgain_16 : decode cX12_comesAgain 16 = .ok (.invokevirtual 219, 3) := by decide +kernel
theorem dX12_comesAgain_19 : decode cX12_comesAgain 19 = .ok (.aload_n 0, 1) := by decide +kernel
theorem dX12_comesAgain_20 : decode cX12_comesAgain 20 = .ok (.iload_n 1, 1) := by decide +kernel
theorem dX12_comesAgain_21 : decode cX12_comesAgain 21 = .ok (.iload 4, 2) := by decide +kernel
theorem dX12_comesAgain_23 : decode cX12_comesAgain 23 = .ok (.iload_n 3, 1) := by decide +kernel
theorem dX12_comesAgain_24 : decode cX12_comesAgain 24 = .ok (.iadd, 1) := by decide +kernel
theorem dX12_comesAgain_25 : decode cX12_comesAgain 25 = .ok (.invokevirtual 219, 3) := by decide +kernel
theorem dX12_comesAgain_28 : decode cX12_comesAgain 28 = .ok (.if_icmp .eq 5, 3) := by decide +kernel
theorem dX12_comesAgain_31 : decode cX12_comesAgain 31 = .ok (.iconst 0, 1) := by decide +kernel
theorem dX12_comesAgain_32 : decode cX12_comesAgain 32 = .ok (.ireturn, 1) := by decide +kernel
theorem dX12_comesAgain_33 : decode cX12_comesAgain 33 = .ok (.iinc 4 1, 3) := by decide +kernel
theorem dX12_comesAgain_36 : decode cX12_comesAgain 36 = .ok (.goto (-33), 3) := by decide +kernel
theorem dX12_comesAgain_39 : decode cX12_comesAgain 39 = .ok (.iconst 1, 1) := by decide +kernel
theorem dX12_comesAgain_40 : decode cX12_comesAgain 40 = .ok (.ireturn, 1) := by decide +kernel
theorem dX12_layAgain_0 : decode cX12_layAgain 0 = .ok (.aload_n 0, 1) := by decide +kernel
theorem dX12_layAgain_1 : decode cX12_layAgain 1 = .ok (.iconst (-1), 1) := by decide +kernel
theorem dX12_layAgain_2 : decode cX12_layAgain 2 = .ok (.putfield 338, 3) := by decide +kernel
theorem dX12_layAgain_5 : decode cX12_layAgain 5 = .ok (.aload_n 0, 1) := by decide +kernel
theorem dX12_layAgain_6 : decode cX12_layAgain 6 = .ok (.iconst (-1), 1) := by decide +kernel
theorem dX12_layAgain_7 : decode cX12_layAgain 7 = .ok (.putfield 341, 3) := by decide +kernel
theorem dX12_layAgain_10 : decode cX12_layAgain 10 = .ok (.iconst 0, 1) := by decide +kernel
theorem dX12_layAgain_11 : decode cX12_layAgain 11 = .ok (.istore_n 2, 1) := by decide +kernel
theorem dX12_layAgain_12 : decode cX12_layAgain 12 = .ok (.aload_n 0, 1) := by decide +kernel
theorem dX12_layAgain_13 : decode cX12_layAgain 13 = .ok (.getfield 22, 3) := by decide +kernel
theorem dX12_layAgain_16 : decode cX12_layAgain 16 = .ok (.iload_n 1, 1) := by decide +kernel
theorem dX12_layAgain_17 : decode cX12_layAgain 17 = .ok (.iaload, 1) := by decide +kernel
theorem dX12_layAgain_18 : decode cX12_layAgain 18 = .ok (.ifCond .ne 72, 3) := by decide +kernel
theorem dX12_layAgain_21 : decode cX12_layAgain 21 = .ok (.iload_n 2, 1) := by decide +kernel
theorem dX12_layAgain_22 : decode cX12_layAgain 22 = .ok (.bipush 60, 2) := by decide +kernel
theorem dX12_layAgain_24 : decode cX12_layAgain 24 = .ok (.if_icmp .ge 66, 3) := by decide +kernel
theorem dX12_layAgain_27 : decode cX12_layAgain 27 = .ok (.aload_n 0, 1) := by decide +kernel
theorem dX12_layAgain_28 : decode cX12_layAgain 28 = .ok (.getfield 338, 3) := by decide +kernel
theorem dX12_layAgain_31 : decode cX12_layAgain 31 = .ok (.iconst (-1), 1) := by decide +kernel
theorem dX12_layAgain_32 : decode cX12_layAgain 32 = .ok (.if_icmp .ne 58, 3) := by decide +kernel
theorem dX12_layAgain_35 : decode cX12_layAgain 35 = .ok (.iconst 1, 1) := by decide +kernel
theorem dX12_layAgain_36 : decode cX12_layAgain 36 = .ok (.istore_n 3, 1) := by decide +kernel
theorem dX12_layAgain_37 : decode cX12_layAgain 37 = .ok (.iload_n 2, 1) := by decide +kernel
theorem dX12_layAgain_38 : decode cX12_layAgain 38 = .ok (.iconst 2, 1) := by decide +kernel
theorem dX12_layAgain_39 : decode cX12_layAgain 39 = .ok (.iload_n 3, 1) := by decide +kernel
theorem dX12_layAgain_40 : decode cX12_layAgain 40 = .ok (.imul, 1) := by decide +kernel
theorem dX12_layAgain_41 : decode cX12_layAgain 41 = .ok (.iadd, 1) := by decide +kernel
theorem dX12_layAgain_42 : decode cX12_layAgain 42 = .ok (.bipush 60, 2) := by decide +kernel
theorem dX12_layAgain_44 : decode cX12_layAgain 44 = .ok (.if_icmp .gt 40, 3) := by decide +kernel
theorem dX12_layAgain_47 : decode cX12_layAgain 47 = .ok (.aload_n 0, 1) := by decide +kernel
theorem dX12_layAgain_48 : decode cX12_layAgain 48 = .ok (.getfield 338, 3) := by decide +kernel
theorem dX12_layAgain_51 : decode cX12_layAgain 51 = .ok (.iconst (-1), 1) := by decide +kernel
theorem dX12_layAgain_52 : decode cX12_layAgain 52 = .ok (.if_icmp .ne 32, 3) := by decide +kernel
theorem dX12_layAgain_55 : decode cX12_layAgain 55 = .ok (.aload_n 0, 1) := by decide +kernel
theorem dX12_layAgain_56 : decode cX12_layAgain 56 = .ok (.iload_n 1, 1) := by decide +kernel
theorem dX12_layAgain_57 : decode cX12_layAgain 57 = .ok (.iload_n 2, 1) := by decide +kernel
theorem dX12_layAgain_58 : decode cX12_layAgain 58 = .ok (.iload_n 3, 1) := by decide +kernel
theorem dX12_layAgain_59 : decode cX12_layAgain 59 = .ok (.invokevirtual 344, 3) := by decide +kernel
theorem dX12_layAgain_62 : decode cX12_layAgain 62 = .ok (.ifCond .ne 6, 3) := by decide +kernel
theorem dX12_layAgain_65 : decode cX12_layAgain 65 = .ok (.goto 13, 3) := by decide +kernel
theorem dX12_layAgain_68 : decode cX12_layAgain 68 = .ok (.aload_n 0, 1) := by decide +kernel
theorem dX12_layAgain_69 : decode cX12_layAgain 69 = .ok (.iload_n 2, 1) := by decide +kernel
theorem dX12_layAgain_70 : decode cX12_layAgain 70 = .ok (.putfield 338, 3) := by decide +kernel
theorem dX12_layAgain_73 : decode cX12_layAgain 73 = .ok (.aload_n 0, 1) := by decide +kernel
theorem dX12_layAgain_74 : decode cX12_layAgain 74 = .ok (.iload_n 3, 1) := by decide +kernel
theorem dX12_layAgain_75 : decode cX12_layAgain 75 = .ok (.putfield 341, 3) := by decide +kernel
theorem dX12_layAgain_78 : decode cX12_layAgain 78 = .ok (.iinc 3 1, 3) := by decide +kernel
theorem dX12_layAgain_81 : decode cX12_layAgain 81 = .ok (.goto (-44), 3) := by decide +kernel
theorem dX12_layAgain_84 : decode cX12_layAgain 84 = .ok (.iinc 2 1, 3) := by decide +kernel
theorem dX12_layAgain_87 : decode cX12_layAgain 87 = .ok (.goto (-75), 3) := by decide +kernel
theorem dX12_layAgain_90 : decode cX12_layAgain 90 = .ok (.return_, 1) := by decide +kernel
theorem dX12_again_0 : decode cX12_again 0 = .ok (.aload_n 0, 1) := by decide +kernel
theorem dX12_again_1 : decode cX12_again 1 = .ok (.iconst 0, 1) := by decide +kernel
theorem dX12_again_2 : decode cX12_again 2 = .ok (.putfield 73, 3) := by decide +kernel
theorem dX12_again_5 : decode cX12_again 5 = .ok (.iload_n 1, 1) := by decide +kernel
theorem dX12_again_6 : decode cX12_again 6 = .ok (.invokestatic 264, 3) := by decide +kernel
theorem dX12_again_9 : decode cX12_again 9 = .ok (.ifCond .eq 13, 3) := by decide +kernel
theorem dX12_again_12 : decode cX12_again 12 = .ok (.iload_n 2, 1) := by decide +kernel
theorem dX12_again_13 : decode cX12_again 13 = .ok (.i2l, 1) := by decide +kernel
theorem dX12_again_14 : decode cX12_again 14 = .ok (.lconst 0, 1) := by decide +kernel
theorem dX12_again_15 : decode cX12_again 15 = .ok (.lconst 1, 1) := by decide +kernel
theorem dX12_again_16 : decode cX12_again 16 = .ok (.invokestatic 78, 3) := by decide +kernel
theorem dX12_again_19 : decode cX12_again 19 = .ok (.ifCond .ne 9, 3) := by decide +kernel
theorem dX12_again_22 : decode cX12_again 22 = .ok (.aload_n 0, 1) := by decide +kernel
theorem dX12_again_23 : decode cX12_again 23 = .ok (.iconst 1, 1) := by decide +kernel
theorem dX12_again_24 : decode cX12_again 24 = .ok (.invokevirtual 299, 3) := by decide +kernel
theorem dX12_again_27 : decode cX12_again 27 = .ok (.ireturn, 1) := by decide +kernel
theorem dX12_again_28 : decode cX12_again 28 = .ok (.aload_n 0, 1) := by decide +kernel
theorem dX12_again_29 : decode cX12_again 29 = .ok (.iload_n 1, 1) := by decide +kernel
theorem dX12_again_30 : decode cX12_again 30 = .ok (.invokevirtual 348, 3) := by decide +kernel
theorem dX12_again_33 : decode cX12_again 33 = .ok (.iload_n 2, 1) := by decide +kernel
theorem dX12_again_34 : decode cX12_again 34 = .ok (.ifCond .ne 10, 3) := by decide +kernel
theorem dX12_again_37 : decode cX12_again 37 = .ok (.aload_n 0, 1) := by decide +kernel
theorem dX12_again_38 : decode cX12_again 38 = .ok (.getfield 338, 3) := by decide +kernel
theorem dX12_again_41 : decode cX12_again 41 = .ok (.goto 7, 3) := by decide +kernel
theorem dX12_again_44 : decode cX12_again 44 = .ok (.aload_n 0, 1) := by decide +kernel
theorem dX12_again_45 : decode cX12_again 45 = .ok (.getfield 341, 3) := by decide +kernel
theorem dX12_again_48 : decode cX12_again 48 = .ok (.ireturn, 1) := by decide +kernel
theorem dX12_areTails_0 : decode cX12_areTails 0 = .ok (.iconst 0, 1) := by decide +kernel
theorem dX12_areTails_1 : decode cX12_areTails 1 = .ok (.istore 5, 2) := by decide +kernel
theorem dX12_areTails_3 : decode cX12_areTails 3 = .ok (.iload 5, 2) := by decide +kernel
theorem dX12_areTails_5 : decode cX12_areTails 5 = .ok (.iload_n 2, 1) := by decide +kernel
theorem dX12_areTails_6 : decode cX12_areTails 6 = .ok (.iload 4, 2) := by decide +kernel
theorem dX12_areTails_8 : decode cX12_areTails 8 = .ok (.invokestatic 302, 3) := by decide +kernel
theorem dX12_areTails_11 : decode cX12_areTails 11 = .ok (.iadd, 1) := by decide +kernel
theorem dX12_areTails_12 : decode cX12_areTails 12 = .ok (.bipush 60, 2) := by decide +kernel
theorem dX12_areTails_14 : decode cX12_areTails 14 = .ok (.if_icmp .ge 33, 3) := by decide +kernel
theorem dX12_areTails_17 : decode cX12_areTails 17 = .ok (.aload_n 0, 1) := by decide +kernel
theorem dX12_areTails_18 : decode cX12_areTails 18 = .ok (.iload_n 1, 1) := by decide +kernel
theorem dX12_areTails_19 : decode cX12_areTails 19 = .ok (.iload_n 2, 1) := by decide +kernel
theorem dX12_areTails_20 : decode cX12_areTails 20 = .ok (.iload 5, 2) := by decide +kernel
theorem dX12_areTails_22 : decode cX12_areTails 22 = .ok (.iadd, 1) := by decide +kernel
theorem dX12_areTails_23 : decode cX12_areTails 23 = .ok (.invokevirtual 219, 3) := by decide +kernel
theorem dX12_areTails_26 : decode cX12_areTails 26 = .ok (.aload_n 0, 1) := by decide +kernel
theorem dX12_areTails_27 : decode cX12_areTails 27 = .ok (.iload_n 3, 1) := by decide +kernel
theorem dX12_areTails_28 : decode cX12_areTails 28 = .ok (.iload 4, 2) := by decide +kernel
theorem dX12_areTails_30 : decode cX12_areTails 30 = .ok (.iload 5, 2) := by decide +kernel
theorem dX12_areTails_32 : decode cX12_areTails 32 = .ok (.iadd, 1) := by decide +kernel
theorem dX12_areTails_33 : decode cX12_areTails 33 = .ok (.invokevirtual 219, 3) := by decide +kernel
theorem dX12_areTails_36 : decode cX12_areTails 36 = .ok (.if_icmp .eq 5, 3) := by decide +kernel
theorem dX12_areTails_39 : decode cX12_areTails 39 = .ok (.iconst 0, 1) := by decide +kernel
theorem dX12_areTails_40 : decode cX12_areTails 40 = .ok (.ireturn, 1) := by decide +kernel
theorem dX12_areTails_41 : decode cX12_areTails 41 = .ok (.iinc 5 1, 3) := by decide +kernel
theorem dX12_areTails_44 : decode cX12_areTails 44 = .ok (.goto (-41), 3) := by decide +kernel
theorem dX12_areTails_47 : decode cX12_areTails 47 = .ok (.iconst 1, 1) := by decide +kernel
theorem dX12_areTails_48 : decode cX12_areTails 48 = .ok (.ireturn, 1) := by decide +kernel
theorem dX12_tails_0 : decode cX12_tails 0 = .ok (.aload_n 0, 1) := by decide +kernel
theorem dX12_tails_1 : decode cX12_tails 1 = .ok (.iconst 0, 1) := by decide +kernel
theorem dX12_tails_2 : decode cX12_tails 2 = .ok (.putfield 73, 3) := by decide +kernel
theorem dX12_tails_5 : decode cX12_tails 5 = .ok (.iload_n 1, 1) := by decide +kernel
theorem dX12_tails_6 : decode cX12_tails 6 = .ok (.invokestatic 264, 3) := by decide +kernel
theorem dX12_tails_9 : decode cX12_tails 9 = .ok (.ifCond .eq 20, 3) := by decide +kernel
theorem dX12_tails_12 : decode cX12_tails 12 = .ok (.iload_n 2, 1) := by decide +kernel
theorem dX12_tails_13 : decode cX12_tails 13 = .ok (.invokestatic 264, 3) := by decide +kernel
theorem dX12_tails_16 : decode cX12_tails 16 = .ok (.ifCond .eq 13, 3) := by decide +kernel
theorem dX12_tails_19 : decode cX12_tails 19 = .ok (.iload_n 3, 1) := by decide +kernel
theorem dX12_tails_20 : decode cX12_tails 20 = .ok (.i2l, 1) := by decide +kernel
theorem dX12_tails_21 : decode cX12_tails 21 = .ok (.lconst 0, 1) := by decide +kernel
theorem dX12_tails_22 : decode cX12_tails 22 = .ok (.lconst 1, 1) := by decide +kernel
theorem dX12_tails_23 : decode cX12_tails 23 = .ok (.invokestatic 78, 3) := by decide +kernel
theorem dX12_tails_26 : decode cX12_tails 26 = .ok (.ifCond .ne 9, 3) := by decide +kernel
theorem dX12_tails_29 : decode cX12_tails 29 = .ok (.aload_n 0, 1) := by decide +kernel
theorem dX12_tails_30 : decode cX12_tails 30 = .ok (.iconst 1, 1) := by decide +kernel
theorem dX12_tails_31 : decode cX12_tails 31 = .ok (.invokevirtual 299, 3) := by decide +kernel
theorem dX12_tails_34 : decode cX12_tails 34 = .ok (.ireturn, 1) := by decide +kernel
theorem dX12_tails_35 : decode cX12_tails 35 = .ok (.aload_n 0, 1) := by decide +kernel
theorem dX12_tails_36 : decode cX12_tails 36 = .ok (.getfield 22, 3) := by decide +kernel
theorem dX12_tails_39 : decode cX12_tails 39 = .ok (.iload_n 1, 1) := by decide +kernel
theorem dX12_tails_40 : decode cX12_tails 40 = .ok (.iaload, 1) := by decide +kernel
theorem dX12_tails_41 : decode cX12_tails 41 = .ok (.ifCond .ne 12, 3) := by decide +kernel
theorem dX12_tails_44 : decode cX12_tails 44 = .ok (.aload_n 0, 1) := by decide +kernel
theorem dX12_tails_45 : decode cX12_tails 45 = .ok (.getfield 22, 3) := by decide +kernel
theorem dX12_tails_48 : decode cX12_tails 48 = .ok (.iload_n 2, 1) := by decide +kernel
theorem dX12_tails_49 : decode cX12_tails 49 = .ok (.iaload, 1) := by decide +kernel
theorem dX12_tails_50 : decode cX12_tails 50 = .ok (.ifCond .eq 5, 3) := by decide +kernel
theorem dX12_tails_53 : decode cX12_tails 53 = .ok (.iconst (-1), 1) := by decide +kernel
theorem dX12_tails_54 : decode cX12_tails 54 = .ok (.ireturn, 1) := by decide +kernel
theorem dX12_tails_55 : decode cX12_tails 55 = .ok (.bipush 40, 2) := by decide +kernel
theorem dX12_tails_57 : decode cX12_tails 57 = .ok (.istore 4, 2) := by decide +kernel
theorem dX12_tails_59 : decode cX12_tails 59 = .ok (.iconst 0, 1) := by decide +kernel
theorem dX12_tails_60 : decode cX12_tails 60 = .ok (.istore 5, 2) := by decide +kernel
theorem dX12_tails_62 : decode cX12_tails 62 = .ok (.iload 5, 2) := by decide +kernel
theorem dX12_tails_64 : decode cX12_tails 64 = .ok (.iconst 2, 1) := by decide +kernel
theorem dX12_tails_65 : decode cX12_tails 65 = .ok (.iload 4, 2) := by decide +kernel
theorem dX12_tails_67 : decode cX12_tails 67 = .ok (.imul, 1) := by decide +kernel
theorem dX12_tails_68 : decode cX12_tails 68 = .ok (.if_icmp .gt 71, 3) := by decide +kernel
theorem dX12_tails_71 : decode cX12_tails 71 = .ok (.iconst 0, 1) := by decide +kernel
theorem dX12_tails_72 : decode cX12_tails 72 = .ok (.iload 5, 2) := by decide +kernel
theorem dX12_tails_74 : decode cX12_tails 74 = .ok (.iload 4, 2) := by decide +kernel
theorem dX12_tails_76 : decode cX12_tails 76 = .ok (.isub, 1) := by decide +kernel
theorem dX12_tails_77 : decode cX12_tails 77 = .ok (.invokestatic 302, 3) := by decide +kernel
theorem dX12_tails_80 : decode cX12_tails 80 = .ok (.istore 6, 2) := by decide +kernel
theorem dX12_tails_82 : decode cX12_tails 82 = .ok (.iload 6, 2) := by decide +kernel
theorem dX12_tails_84 : decode cX12_tails 84 = .ok (.iload 5, 2) := by decide +kernel
theorem dX12_tails_86 : decode cX12_tails 86 = .ok (.if_icmp .gt 47, 3) := by decide +kernel
theorem dX12_tails_89 : decode cX12_tails 89 = .ok (.iload 6, 2) := by decide +kernel
theorem dX12_tails_91 : decode cX12_tails 91 = .ok (.iload 4, 2) := by decide +kernel
theorem dX12_tails_93 : decode cX12_tails 93 = .ok (.if_icmp .gt 40, 3) := by decide +kernel
theorem dX12_tails_96 : decode cX12_tails 96 = .ok (.aload_n 0, 1) := by decide +kernel
theorem dX12_tails_97 : decode cX12_tails 97 = .ok (.iload_n 1, 1) := by decide +kernel
theorem dX12_tails_98 : decode cX12_tails 98 = .ok (.iload 6, 2) := by decide +kernel
theorem dX12_tails_100 : decode cX12_tails 100 = .ok (.iload_n 2, 1) := by decide +kernel
theorem dX12_tails_101 : decode cX12_tails 101 = .ok (.iload 5, 2) := by decide +kernel
theorem dX12_tails_103 : decode cX12_tails 103 = .ok (.iload 6, 2) := by decide +kernel
theorem dX12_tails_105 : decode cX12_tails 105 = .ok (.isub, 1) := by decide +kernel
theorem dX12_tails_106 : decode cX12_tails 106 = .ok (.invokevirtual 351, 3) := by decide +kernel
theorem dX12_tails_109 : decode cX12_tails 109 = .ok (.ifCond .eq 18, 3) := by decide +kernel
theorem dX12_tails_112 : decode cX12_tails 112 = .ok (.iload_n 3, 1) := by decide +kernel
theorem dX12_tails_113 : decode cX12_tails 113 = .ok (.ifCond .ne 8, 3) := by decide +kernel
theorem dX12_tails_116 : decode cX12_tails 116 = .ok (.iload 6, 2) := by decide +kernel
theorem dX12_tails_118 : decode cX12_tails 118 = .ok (.goto 8, 3) := by decide +kernel
theorem dX12_tails_121 : decode cX12_tails 121 = .ok (.iload 5, 2) := by decide +kernel
theorem dX12_tails_123 : decode cX12_tails 123 = .ok (.iload 6, 2) := by decide +kernel
theorem dX12_tails_125 : decode cX12_tails 125 = .ok (.isub, 1) := by decide +kernel
theorem dX12_tails_126 : decode cX12_tails 126 = .ok (.ireturn, 1) := by decide +kernel
theorem dX12_tails_127 : decode cX12_tails 127 = .ok (.iinc 6 1, 3) := by decide +kernel
theorem dX12_tails_130 : decode cX12_tails 130 = .ok (.goto (-48), 3) := by decide +kernel
theorem dX12_tails_133 : decode cX12_tails 133 = .ok (.iinc 5 1, 3) := by decide +kernel
theorem dX12_tails_136 : decode cX12_tails 136 = .ok (.goto (-74), 3) := by decide +kernel
theorem dX12_tails_139 : decode cX12_tails 139 = .ok (.iconst (-1), 1) := by decide +kernel
theorem dX12_tails_140 : decode cX12_tails 140 = .ok (.ireturn, 1) := by decide +kernel
theorem dX12_toldBySingle_0 : decode cX12_toldBySingle 0 = .ok (.aload_n 0, 1) := by decide +kernel
theorem dX12_toldBySingle_1 : decode cX12_toldBySingle 1 = .ok (.iload_n 1, 1) := by decide +kernel
theorem dX12_toldBySingle_2 : decode cX12_toldBySingle 2 = .ok (.iload_n 3, 1) := by decide +kernel
theorem dX12_toldBySingle_3 : decode cX12_toldBySingle 3 = .ok (.iload 4, 2) := by decide +kernel
theorem dX12_toldBySingle_5 : decode cX12_toldBySingle 5 = .ok (.iload 5, 2) := by decide +kernel
theorem dX12_toldBySingle_7 : decode cX12_toldBySingle 7 = .ok (.iload 6, 2) := by decide +kernel
theorem dX12_toldBySingle_9 : decode cX12_toldBySingle 9 = .ok (.invokevirtual 248, 3) := by decide +kernel
theorem dX12_toldBySingle_12 : decode cX12_toldBySingle 12 = .ok (.iconst 0, 1) := by decide +kernel
theorem dX12_toldBySingle_13 : decode cX12_toldBySingle 13 = .ok (.istore 7, 2) := by decide +kernel
theorem dX12_toldBySingle_15 : decode cX12_toldBySingle 15 = .ok (.iload 7, 2) := by decide +kernel
theorem dX12_toldBySingle_17 : decode cX12_toldBySingle 17 = .ok (.iload_n 2, 1) := by decide +kernel
theorem dX12_toldBySingle_18 : decode cX12_toldBySingle 18 = .ok (.if_icmp .gt 21, 3) := by decide +kernel
theorem dX12_toldBySingle_21 : decode cX12_toldBySingle 21 = .ok (.aload_n 0, 1) := by decide +kernel
theorem dX12_toldBySingle_22 : decode cX12_toldBySingle 22 = .ok (.invokevirtual 255, 3) := by decide +kernel
theorem dX12_toldBySingle_25 : decode cX12_toldBySingle 25 = .ok (.iconst (-1), 1) := by decide +kernel
theorem dX12_toldBySingle_26 : decode cX12_toldBySingle 26 = .ok (.if_icmp .eq 7, 3) := by decide +kernel
theorem dX12_toldBySingle_29 : decode cX12_toldBySingle 29 = .ok (.ldc_w 354, 3) := by decide +kernel
theorem dX12_toldBySingle_32 : decode cX12_toldBySingle 32 = .ok (.ireturn, 1) := by decide +kernel
theorem dX12_toldBySingle_33 : decode cX12_toldBySingle 33 = .ok (.iinc 7 1, 3) := by decide +kernel
theorem dX12_toldBySingle_36 : decode cX12_toldBySingle 36 = .ok (.goto (-21), 3) := by decide +kernel
theorem dX12_toldBySingle_39 : decode cX12_toldBySingle 39 = .ok (.aload_n 0, 1) := by decide +kernel
theorem dX12_toldBySingle_40 : decode cX12_toldBySingle 40 = .ok (.getfield 238, 3) := by decide +kernel
theorem dX12_toldBySingle_43 : decode cX12_toldBySingle 43 = .ok (.l2i, 1) := by decide +kernel
theorem dX12_toldBySingle_44 : decode cX12_toldBySingle 44 = .ok (.ireturn, 1) := by decide +kernel
theorem dX12_floor_0 : decode cX12_floor 0 = .ok (.aload_n 0, 1) := by decide +kernel
theorem dX12_floor_1 : decode cX12_floor 1 = .ok (.iload_n 1, 1) := by decide +kernel
theorem dX12_floor_2 : decode cX12_floor 2 = .ok (.invokestatic 264, 3) := by decide +kernel
theorem dX12_floor_5 : decode cX12_floor 5 = .ok (.ifCond .ne 7, 3) := by decide +kernel
theorem dX12_floor_8 : decode cX12_floor 8 = .ok (.iconst 1, 1) := by decide +kernel
theorem dX12_floor_9 : decode cX12_floor 9 = .ok (.goto 20, 3) := by decide +kernel
theorem dX12_floor_12 : decode cX12_floor 12 = .ok (.iload_n 2, 1) := by decide +kernel
theorem dX12_floor_13 : decode cX12_floor 13 = .ok (.i2l, 1) := by decide +kernel
theorem dX12_floor_14 : decode cX12_floor 14 = .ok (.lconst 1, 1) := by decide +kernel
theorem dX12_floor_15 : decode cX12_floor 15 = .ok (.ldc2_w 269, 3) := by decide +kernel
theorem dX12_floor_18 : decode cX12_floor 18 = .ok (.invokestatic 78, 3) := by decide +kernel
theorem dX12_floor_21 : decode cX12_floor 21 = .ok (.ifCond .ne 7, 3) := by decide +kernel
theorem dX12_floor_24 : decode cX12_floor 24 = .ok (.iconst 2, 1) := by decide +kernel
theorem dX12_floor_25 : decode cX12_floor 25 = .ok (.goto 4, 3) := by decide +kernel
theorem dX12_floor_28 : decode cX12_floor 28 = .ok (.iconst 0, 1) := by decide +kernel
theorem dX12_floor_29 : decode cX12_floor 29 = .ok (.putfield 73, 3) := by decide +kernel
theorem dX12_floor_32 : decode cX12_floor 32 = .ok (.aload_n 0, 1) := by decide +kernel
theorem dX12_floor_33 : decode cX12_floor 33 = .ok (.getfield 73, 3) := by decide +kernel
theorem dX12_floor_36 : decode cX12_floor 36 = .ok (.ifCond .le 7, 3) := by decide +kernel
theorem dX12_floor_39 : decode cX12_floor 39 = .ok (.iconst 0, 1) := by decide +kernel
theorem dX12_floor_40 : decode cX12_floor 40 = .ok (.goto 13, 3) := by decide +kernel
theorem dX12_floor_43 : decode cX12_floor 43 = .ok (.aload_n 0, 1) := by decide +kernel
theorem dX12_floor_44 : decode cX12_floor 44 = .ok (.iload_n 1, 1) := by decide +kernel
theorem dX12_floor_45 : decode cX12_floor 45 = .ok (.iconst 0, 1) := by decide +kernel
theorem dX12_floor_46 : decode cX12_floor 46 = .ok (.iload_n 2, 1) := by decide +kernel
theorem dX12_floor_47 : decode cX12_floor 47 = .ok (.iconst 0, 1) := by decide +kernel
theorem dX12_floor_48 : decode cX12_floor 48 = .ok (.iconst 0, 1) := by decide +kernel
theorem dX12_floor_49 : decode cX12_floor 49 = .ok (.iconst 1, 1) := by decide +kernel
theorem dX12_floor_50 : decode cX12_floor 50 = .ok (.invokevirtual 355, 3) := by decide +kernel
theorem dX12_floor_53 : decode cX12_floor 53 = .ok (.ireturn, 1) := by decide +kernel
theorem dX12_would_0 : decode cX12_would 0 = .ok (.aload_n 0, 1) := by decide +kernel
theorem dX12_would_1 : decode cX12_would 1 = .ok (.iload_n 1, 1) := by decide +kernel
theorem dX12_would_2 : decode cX12_would 2 = .ok (.invokestatic 264, 3) := by decide +kernel
theorem dX12_would_5 : decode cX12_would 5 = .ok (.ifCond .eq 15, 3) := by decide +kernel
theorem dX12_would_8 : decode cX12_would 8 = .ok (.iload_n 2, 1) := by decide +kernel
theorem dX12_would_9 : decode cX12_would 9 = .ok (.i2l, 1) := by decide +kernel
theorem dX12_would_10 : decode cX12_would 10 = .ok (.lconst 0, 1) := by decide +kernel
theorem dX12_would_11 : decode cX12_would 11 = .ok (.ldc2_w 359, 3) := by decide +kernel
theorem dX12_would_14 : decode cX12_would 14 = .ok (.invokestatic 78, 3) := by decide +kernel
theorem dX12_would_17 : decode cX12_would 17 = .ok (.ifCond .ne 7, 3) := by decide +kernel
theorem dX12_would_20 : decode cX12_would 20 = .ok (.iconst 1, 1) := by decide +kernel
theorem dX12_would_21 : decode cX12_would 21 = .ok (.goto 21, 3) := by decide +kernel
theorem dX12_would_24 : decode cX12_would 24 = .ok (.iload_n 3, 1) := by decide +kernel
theorem dX12_would_25 : decode cX12_would 25 = .ok (.iload 4, 2) := by decide +kernel
theorem dX12_would_27 : decode cX12_would 27 = .ok (.iload 5, 2) := by decide +kernel
theorem dX12_would_29 : decode cX12_would 29 = .ok (.iload 6, 2) := by decide +kernel
theorem dX12_would_31 : decode cX12_would 31 = .ok (.invokestatic 283, 3) := by decide +kernel
theorem dX12_would_34 : decode cX12_would 34 = .ok (.ifCond .ne 7, 3) := by decide +kernel
theorem dX12_would_37 : decode cX12_would 37 = .ok (.iconst 2, 1) := by decide +kernel
theorem dX12_would_38 : decode cX12_would 38 = .ok (.goto 4, 3) := by decide +kernel
theorem dX12_would_41 : decode cX12_would 41 = .ok (.iconst 0, 1) := by decide +kernel
theorem dX12_would_42 : decode cX12_would 42 = .ok (.putfield 73, 3) := by decide +kernel
theorem dX12_would_45 : decode cX12_would 45 = .ok (.aload_n 0, 1) := by decide +kernel
theorem dX12_would_46 : decode cX12_would 46 = .ok (.getfield 73, 3) := by decide +kernel
theorem dX12_would_49 : decode cX12_would 49 = .ok (.ifCond .le 7, 3) := by decide +kernel
theorem dX12_would_52 : decode cX12_would 52 = .ok (.iconst 0, 1) := by decide +kernel
theorem dX12_would_53 : decode cX12_would 53 = .ok (.goto 16, 3) := by decide +kernel
theorem dX12_would_56 : decode cX12_would 56 = .ok (.aload_n 0, 1) := by decide +kernel
theorem dX12_would_57 : decode cX12_would 57 = .ok (.iload_n 1, 1) := by decide +kernel
theorem dX12_would_58 : decode cX12_would 58 = .ok (.iload_n 2, 1) := by decide +kernel
theorem dX12_would_59 : decode cX12_would 59 = .ok (.iload_n 3, 1) := by decide +kernel
theorem dX12_would_60 : decode cX12_would 60 = .ok (.iload 4, 2) := by decide +kernel
theorem dX12_would_62 : decode cX12_would 62 = .ok (.iload 5, 2) := by decide +kernel
theorem dX12_would_64 : decode cX12_would 64 = .ok (.iload 6, 2) := by decide +kernel
theorem dX12_would_66 : decode cX12_would 66 = .ok (.invokevirtual 355, 3) := by decide +kernel
theorem dX12_would_69 : decode cX12_would 69 = .ok (.ireturn, 1) := by decide +kernel
theorem dX12_often_0 : decode cX12_often 0 = .ok (.aload_n 0, 1) := by decide +kernel
theorem dX12_often_1 : decode cX12_often 1 = .ok (.iconst 0, 1) := by decide +kernel
theorem dX12_often_2 : decode cX12_often 2 = .ok (.putfield 73, 3) := by decide +kernel
theorem dX12_often_5 : decode cX12_often 5 = .ok (.iload_n 1, 1) := by decide +kernel
theorem dX12_often_6 : decode cX12_often 6 = .ok (.invokestatic 264, 3) := by decide +kernel
theorem dX12_often_9 : decode cX12_often 9 = .ok (.ifCond .ne 9, 3) := by decide +kernel
theorem dX12_often_12 : decode cX12_often 12 = .ok (.aload_n 0, 1) := by decide +kernel
theorem dX12_often_13 : decode cX12_often 13 = .ok (.iconst 1, 1) := by decide +kernel
theorem dX12_often_14 : decode cX12_often 14 = .ok (.invokevirtual 299, 3) := by decide +kernel
theorem dX12_often_17 : decode cX12_often 17 = .ok (.ireturn, 1) := by decide +kernel
theorem dX12_often_18 : decode cX12_often 18 = .ok (.iconst 0, 1) := by decide +kernel
theorem dX12_often_19 : decode cX12_often 19 = .ok (.istore_n 3, 1) := by decide +kernel
theorem dX12_often_20 : decode cX12_often 20 = .ok (.iconst 1, 1) := by decide +kernel
theorem dX12_often_21 : decode cX12_often 21 = .ok (.istore 4, 2) := by decide +kernel
theorem dX12_often_23 : decode cX12_often 23 = .ok (.iload 4, 2) := by decide +kernel
theorem dX12_often_25 : decode cX12_often 25 = .ok (.aload_n 0, 1) := by decide +kernel
theorem dX12_often_26 : decode cX12_often 26 = .ok (.getfield 19, 3) := by decide +kernel
theorem dX12_often_29 : decode cX12_often 29 = .ok (.iload_n 1, 1) := by decide +kernel
theorem dX12_often_30 : decode cX12_often 30 = .ok (.iaload, 1) := by decide +kernel
theorem dX12_often_31 : decode cX12_often 31 = .ok (.if_icmp .ge 28, 3) := by decide +kernel
theorem dX12_often_34 : decode cX12_often 34 = .ok (.iload_n 3, 1) := by decide +kernel
theorem dX12_often_35 : decode cX12_often 35 = .ok (.aload_n 0, 1) := by decide +kernel
theorem dX12_often_36 : decode cX12_often 36 = .ok (.iload_n 1, 1) := by decide +kernel
theorem dX12_often_37 : decode cX12_often 37 = .ok (.iload 4, 2) := by decide +kernel
theorem dX12_often_39 : decode cX12_often 39 = .ok (.invokevirtual 219, 3) := by decide +kernel
theorem dX12_often_42 : decode cX12_often 42 = .ok (.iload_n 2, 1) := by decide +kernel
theorem dX12_often_43 : decode cX12_often 43 = .ok (.if_icmp .ne 7, 3) := by decide +kernel
theorem dX12_often_46 : decode cX12_often 46 = .ok (.iconst 1, 1) := by decide +kernel
theorem dX12_often_47 : decode cX12_often 47 = .ok (.goto 4, 3) := by decide +kernel
theorem dX12_often_50 : decode cX12_often 50 = .ok (.iconst 0, 1) := by decide +kernel
theorem dX12_often_51 : decode cX12_often 51 = .ok (.iadd, 1) := by decide +kernel
theorem dX12_often_52 : decode cX12_often 52 = .ok (.istore_n 3, 1) := by decide +kernel
theorem dX12_often_53 : decode cX12_often 53 = .ok (.iinc 4 1, 3) := by decide +kernel
theorem dX12_often_56 : decode cX12_often 56 = .ok (.goto (-33), 3) := by decide +kernel
theorem dX12_often_59 : decode cX12_often 59 = .ok (.iload_n 3, 1) := by decide +kernel
theorem dX12_often_60 : decode cX12_often 60 = .ok (.ireturn, 1) := by decide +kernel
theorem dX12_left_0 : decode cX12_left 0 = .ok (.aload_n 0, 1) := by decide +kernel
theorem dX12_left_1 : decode cX12_left 1 = .ok (.iconst 0, 1) := by decide +kernel
theorem dX12_left_2 : decode cX12_left 2 = .ok (.putfield 73, 3) := by decide +kernel
theorem dX12_left_5 : decode cX12_left 5 = .ok (.iload_n 1, 1) := by decide +kernel
theorem dX12_left_6 : decode cX12_left 6 = .ok (.invokestatic 264, 3) := by decide +kernel
theorem dX12_left_9 : decode cX12_left 9 = .ok (.ifCond .eq 43, 3) := by decide +kernel
theorem dX12_left_12 : decode cX12_left 12 = .ok (.aload_n 0, 1) := by decide +kernel
theorem dX12_left_13 : decode cX12_left 13 = .ok (.iload_n 1, 1) := by decide +kernel
theorem dX12_left_14 : decode cX12_left 14 = .ok (.iconst 0, 1) := by decide +kernel
theorem dX12_left_15 : decode cX12_left 15 = .ok (.invokevirtual 86, 3) := by decide +kernel
theorem dX12_left_18 : decode cX12_left 18 = .ok (.iconst 1, 1) := by decide +kernel
theorem dX12_left_19 : decode cX12_left 19 = .ok (.if_icmp .ne 33, 3) := by decide +kernel
theorem dX12_left_22 : decode cX12_left 22 = .ok (.aload_n 0, 1) := by decide +kernel
theorem dX12_left_23 : decode cX12_left 23 = .ok (.iload_n 1, 1) := by decide +kernel
theorem dX12_left_24 : decode cX12_left 24 = .ok (.invokevirtual 132, 3) := by decide +kernel
theorem dX12_left_27 : decode cX12_left 27 = .ok (.ifCond .ne 25, 3) := by decide +kernel
theorem dX12_left_30 : decode cX12_left 30 = .ok (.iload_n 2, 1) := by decide +kernel
theorem dX12_left_31 : decode cX12_left 31 = .ok (.i2l, 1) := by decide +kernel
theorem dX12_left_32 : decode cX12_left 32 = .ok (.lconst 0, 1) := by decide +kernel
theorem dX12_left_33 : decode cX12_left 33 = .ok (.ldc2_w 359, 3) := by decide +kernel
theorem dX12_left_36 : decode cX12_left 36 = .ok (.invokestatic 78, 3) := by decide +kernel
theorem dX12_left_39 : decode cX12_left 39 = .ok (.ifCond .eq 13, 3) := by decide +kernel
theorem dX12_left_42 : decode cX12_left 42 = .ok (.iload_n 3, 1) := by decide +kernel
theorem dX12_left_43 : decode cX12_left 43 = .ok (.i2l, 1) := by decide +kernel
theorem dX12_left_44 : decode cX12_left 44 = .ok (.lconst 0, 1) := by decide +kernel
theorem dX12_left_45 : decode cX12_left 45 = .ok (.lconst 1, 1) := by decide +kernel
theorem dX12_left_46 : decode cX12_left 46 = .ok (.invokestatic 78, 3) := by decide +kernel
theorem dX12_left_49 : decode cX12_left 49 = .ok (.ifCond .ne 9, 3) := by decide +kernel
theorem dX12_left_52 : decode cX12_left 52 = .ok (.aload_n 0, 1) := by decide +kernel
theorem dX12_left_53 : decode cX12_left 53 = .ok (.iconst 1, 1) := by decide +kernel
theorem dX12_left_54 : decode cX12_left 54 = .ok (.invokevirtual 299, 3) := by decide +kernel
theorem dX12_left_57 : decode cX12_left 57 = .ok (.ireturn, 1) := by decide +kernel
theorem dX12_left_58 : decode cX12_left 58 = .ok (.aload_n 0, 1) := by decide +kernel
theorem dX12_left_59 : decode cX12_left 59 = .ok (.iload_n 1, 1) := by decide +kernel
theorem dX12_left_60 : decode cX12_left 60 = .ok (.invokevirtual 136, 3) := by decide +kernel
theorem dX12_left_63 : decode cX12_left 63 = .ok (.iload_n 3, 1) := by decide +kernel
theorem dX12_left_64 : decode cX12_left 64 = .ok (.ifCond .ne 12, 3) := by decide +kernel
theorem dX12_left_67 : decode cX12_left 67 = .ok (.aload_n 0, 1) := by decide +kernel
theorem dX12_left_68 : decode cX12_left 68 = .ok (.getfield 34, 3) := by decide +kernel
theorem dX12_left_71 : decode cX12_left 71 = .ok (.iload_n 2, 1) := by decide +kernel
theorem dX12_left_72 : decode cX12_left 72 = .ok (.laload, 1) := by decide +kernel
theorem dX12_left_73 : decode cX12_left 73 = .ok (.goto 9, 3) := by decide +kernel
theorem dX12_left_76 : decode cX12_left 76 = .ok (.aload_n 0, 1) := by decide +kernel
theorem dX12_left_77 : decode cX12_left 77 = .ok (.getfield 38, 3) := by decide +kernel
theorem dX12_left_80 : decode cX12_left 80 = .ok (.iload_n 2, 1) := by decide +kernel
theorem dX12_left_81 : decode cX12_left 81 = .ok (.laload, 1) := by decide +kernel
theorem dX12_left_82 : decode cX12_left 82 = .ok (.l2i, 1) := by decide +kernel
theorem dX12_left_83 : decode cX12_left 83 = .ok (.ireturn, 1) := by decide +kernel
theorem dX12_writes_0 : decode cX12_writes 0 = .ok (.aload_n 0, 1) := by decide +kernel
theorem dX12_writes_1 : decode cX12_writes 1 = .ok (.getfield 53, 3) := by decide +kernel
theorem dX12_writes_4 : decode cX12_writes 4 = .ok (.aload_n 0, 1) := by decide +kernel
theorem dX12_writes_5 : decode cX12_writes 5 = .ok (.getfield 361, 3) := by decide +kernel
theorem dX12_writes_8 : decode cX12_writes 8 = .ok (.iload_n 1, 1) := by decide +kernel
theorem dX12_writes_9 : decode cX12_writes 9 = .ok (.iastore, 1) := by decide +kernel
theorem dX12_writes_10 : decode cX12_writes 10 = .ok (.aload_n 0, 1) := by decide +kernel
theorem dX12_writes_11 : decode cX12_writes 11 = .ok (.dup, 1) := by decide +kernel
theorem dX12_writes_12 : decode cX12_writes 12 = .ok (.getfield 361, 3) := by decide +kernel
theorem dX12_writes_15 : decode cX12_writes 15 = .ok (.iconst 1, 1) := by decide +kernel
theorem dX12_writes_16 : decode cX12_writes 16 = .ok (.iadd, 1) := by decide +kernel
theorem dX12_writes_17 : decode cX12_writes 17 = .ok (.putfield 361, 3) := by decide +kernel
theorem dX12_writes_20 : decode cX12_writes 20 = .ok (.return_, 1) := by decide +kernel
theorem dX12_writesNumber_0 : decode cX12_writesNumber 0 = .ok (.lload_n 1, 1) := by decide +kernel
theorem dX12_writesNumber_1 : decode cX12_writesNumber 1 = .ok (.lconst 0, 1) := by decide +kernel
theorem dX12_writesNumber_2 : decode cX12_writesNumber 2 = .ok (.lcmp, 1) := by decide +kernel
theorem dX12_writesNumber_3 : decode cX12_writesNumber 3 = .ok (.ifCond .ge 16, 3) := by decide +kernel
theorem dX12_writesNumber_6 : decode cX12_writesNumber 6 = .ok (.aload_n 0, 1) := by decide +kernel
theorem dX12_writesNumber_7 : decode cX12_writesNumber 7 = .ok (.bipush 45, 2) := by decide +kernel
theorem dX12_writesNumber_9 : decode cX12_writesNumber 9 = .ok (.invokevirtual 364, 3) := by decide +kernel
theorem dX12_writesNumber_12 : decode cX12_writesNumber 12 = .ok (.aload_n 0, 1) := by decide +kernel
theorem dX12_writesNumber_13 : decode cX12_writesNumber 13 = .ok (.lload_n 1, 1) := by decide +kernel
theorem dX12_writesNumber_14 : decode cX12_writesNumber 14 = .ok (.lneg, 1) := by decide +kernel
theorem dX12_writesNumber_15 : decode cX12_writesNumber 15 = .ok (.invokevirtual 367, 3) := by decide +kernel
theorem dX12_writesNumber_18 : decode cX12_writesNumber 18 = .ok (.return_, 1) := by decide +kernel
theorem dX12_writesNumber_19 : decode cX12_writesNumber 19 = .ok (.lload_n 1, 1) := by decide +kernel
theorem dX12_writesNumber_20 : decode cX12_writesNumber 20 = .ok (.ldc2_w 76, 3) := by decide +kernel
theorem dX12_writesNumber_23 : decode cX12_writesNumber 23 = .ok (.lcmp, 1) := by decide +kernel
theorem dX12_writesNumber_24 : decode cX12_writesNumber 24 = .ok (.ifCond .le 12, 3) := by decide +kernel
theorem dX12_writesNumber_27 : decode cX12_writesNumber 27 = .ok (.aload_n 0, 1) := by decide +kernel
theorem dX12_writesNumber_28 : decode cX12_writesNumber 28 = .ok (.lload_n 1, 1) := by decide +kernel
theorem dX12_writesNumber_29 : decode cX12_writesNumber 29 = .ok (.ldc2_w 370, 3) := by decide +kernel
theorem dX12_writesNumber_32 : decode cX12_writesNumber 32 = .ok (.ldiv, 1) := by decide +kernel
theorem dX12_writesNumber_33 : decode cX12_writesNumber 33 = .ok (.invokevirtual 367, 3) := by decide +kernel
theorem dX12_writesNumber_36 : decode cX12_writesNumber 36 = .ok (.aload_n 0, 1) := by decide +kernel
theorem dX12_writesNumber_37 : decode cX12_writesNumber 37 = .ok (.ldc2_w 372, 3) := by decide +kernel
theorem dX12_writesNumber_40 : decode cX12_writesNumber 40 = .ok (.lload_n 1, 1) := by decide +kernel
theorem dX12_writesNumber_41 : decode cX12_writesNumber 41 = .ok (.ldc2_w 370, 3) := by decide +kernel
theorem dX12_writesNumber_44 : decode cX12_writesNumber 44 = .ok (.lrem, 1) := by decide +kernel
theorem dX12_writesNumber_45 : decode cX12_writesNumber 45 = .ok (.ladd, 1) := by decide +kernel
theorem dX12_writesNumber_46 : decode cX12_writesNumber 46 = .ok (.l2i, 1) := by decide +kernel
theorem dX12_writesNumber_47 : decode cX12_writesNumber 47 = .ok (.invokevirtual 364, 3) := by decide +kernel
theorem dX12_writesNumber_50 : decode cX12_writesNumber 50 = .ok (.return_, 1) := by decide +kernel
theorem dX12_writesSign_0 : decode cX12_writesSign 0 = .ok (.iload_n 1, 1) := by decide +kernel
theorem dX12_writesSign_1 : decode cX12_writesSign 1 = .ok (.ifCond .le 19, 3) := by decide +kernel
theorem dX12_writesSign_4 : decode cX12_writesSign 4 = .ok (.aload_n 0, 1) := by decide +kernel
theorem dX12_writesSign_5 : decode cX12_writesSign 5 = .ok (.iload_n 1, 1) := by decide +kernel
theorem dX12_writesSign_6 : decode cX12_writesSign 6 = .ok (.iconst 1, 1) := by decide +kernel
theorem dX12_writesSign_7 : decode cX12_writesSign 7 = .ok (.if_icmp .ne 8, 3) := by decide +kernel
theorem dX12_writesSign_10 : decode cX12_writesSign 10 = .ok (.bipush 59, 2) := by decide +kernel
theorem dX12_writesSign_12 : decode cX12_writesSign 12 = .ok (.goto 5, 3) := by decide +kernel
theorem dX12_writesSign_15 : decode cX12_writesSign 15 = .ok (.bipush 44, 2) := by decide +kernel
theorem dX12_writesSign_17 : decode cX12_writesSign 17 = .ok (.invokevirtual 364, 3) := by decide +kernel
theorem dX12_writesSign_20 : decode cX12_writesSign 20 = .ok (.return_, 1) := by decide +kernel
theorem dX12_writesTerms_0 : decode cX12_writesTerms 0 = .ok (.iload_n 2, 1) := by decide +kernel
theorem dX12_writesTerms_1 : decode cX12_writesTerms 1 = .ok (.istore 5, 2) := by decide +kernel
theorem dX12_writesTerms_3 : decode cX12_writesTerms 3 = .ok (.iload 5, 2) := by decide +kernel
theorem dX12_writesTerms_5 : decode cX12_writesTerms 5 = .ok (.iload_n 3, 1) := by decide +kernel
theorem dX12_writesTerms_6 : decode cX12_writesTerms 6 = .ok (.if_icmp .ge 38, 3) := by decide +kernel
theorem dX12_writesTerms_9 : decode cX12_writesTerms 9 = .ok (.iload 4, 2) := by decide +kernel
theorem dX12_writesTerms_11 : decode cX12_writesTerms 11 = .ok (.ifCond .eq 9, 3) := by decide +kernel
theorem dX12_writesTerms_14 : decode cX12_writesTerms 14 = .ok (.iload 5, 2) := by decide +kernel
theorem dX12_writesTerms_16 : decode cX12_writesTerms 16 = .ok (.iload_n 2, 1) := by decide +kernel
theorem dX12_writesTerms_17 : decode cX12_writesTerms 17 = .ok (.if_icmp .le 9, 3) := by decide +kernel
theorem dX12_writesTerms_20 : decode cX12_writesTerms 20 = .ok (.aload_n 0, 1) := by decide +kernel
theorem dX12_writesTerms_21 : decode cX12_writesTerms 21 = .ok (.iload 5, 2) := by decide +kernel
theorem dX12_writesTerms_23 : decode cX12_writesTerms 23 = .ok (.invokevirtual 374, 3) := by decide +kernel
theorem dX12_writesTerms_26 : decode cX12_writesTerms 26 = .ok (.aload_n 0, 1) := by decide +kernel
theorem dX12_writesTerms_27 : decode cX12_writesTerms 27 = .ok (.aload_n 0, 1) := by decide +kernel
theorem dX12_writesTerms_28 : decode cX12_writesTerms 28 = .ok (.iload_n 1, 1) := by decide +kernel
theorem dX12_writesTerms_29 : decode cX12_writesTerms 29 = .ok (.iload 5, 2) := by decide +kernel
theorem dX12_writesTerms_31 : decode cX12_writesTerms 31 = .ok (.invokevirtual 219, 3) := by decide +kernel
theorem dX12_writesTerms_34 : decode cX12_writesTerms 34 = .ok (.i2l, 1) := by decide +kernel
theorem dX12_writesTerms_35 : decode cX12_writesTerms 35 = .ok (.invokevirtual 367, 3) := by decide +kernel
theorem dX12_writesTerms_38 : decode cX12_writesTerms 38 = .ok (.iinc 5 1, 3) := by decide +kernel
theorem dX12_writesTerms_41 : decode cX12_writesTerms 41 = .ok (.goto (-38), 3) := by decide +kernel
theorem dX12_writesTerms_44 : decode cX12_writesTerms 44 = .ok (.return_, 1) := by decide +kernel
theorem dX12_say_0 : decode cX12_say 0 = .ok (.aload_n 0, 1) := by decide +kernel
theorem dX12_say_1 : decode cX12_say 1 = .ok (.iload_n 1, 1) := by decide +kernel
theorem dX12_say_2 : decode cX12_say 2 = .ok (.invokestatic 264, 3) := by decide +kernel
theorem dX12_say_5 : decode cX12_say 5 = .ok (.ifCond .ne 7, 3) := by decide +kernel
theorem dX12_say_8 : decode cX12_say 8 = .ok (.iconst 1, 1) := by decide +kernel
theorem dX12_say_9 : decode cX12_say 9 = .ok (.goto 20, 3) := by decide +kernel
theorem dX12_say_12 : decode cX12_say 12 = .ok (.iload_n 2, 1) := by decide +kernel
theorem dX12_say_13 : decode cX12_say 13 = .ok (.i2l, 1) := by decide +kernel
theorem dX12_say_14 : decode cX12_say 14 = .ok (.lconst 1, 1) := by decide +kernel
theorem dX12_say_15 : decode cX12_say 15 = .ok (.ldc2_w 377, 3) := by decide +kernel
theorem dX12_say_18 : decode cX12_say 18 = .ok (.invokestatic 78, 3) := by decide +kernel
theorem dX12_say_21 : decode cX12_say 21 = .ok (.ifCond .ne 7, 3) := by decide +kernel
theorem dX12_say_24 : decode cX12_say 24 = .ok (.iconst 2, 1) := by decide +kernel
theorem dX12_say_25 : decode cX12_say 25 = .ok (.goto 4, 3) := by decide +kernel
theorem dX12_say_28 : decode cX12_say 28 = .ok (.iconst 0, 1) := by decide +kernel
theorem dX12_say_29 : decode cX12_say 29 = .ok (.putfield 73, 3) := by decide +kernel
theorem dX12_say_32 : decode cX12_say 32 = .ok (.aload_n 0, 1) := by decide +kernel
theorem dX12_say_33 : decode cX12_say 33 = .ok (.getfield 73, 3) := by decide +kernel
theorem dX12_say_36 : decode cX12_say 36 = .ok (.ifCond .le 5, 3) := by decide +kernel
theorem dX12_say_39 : decode cX12_say 39 = .ok (.iconst 0, 1) := by decide +kernel
theorem dX12_say_40 : decode cX12_say 40 = .ok (.ireturn, 1) := by decide +kernel
theorem dX12_say_41 : decode cX12_say 41 = .ok (.aload_n 0, 1) := by decide +kernel
theorem dX12_say_42 : decode cX12_say 42 = .ok (.iload_n 1, 1) := by decide +kernel
theorem dX12_say_43 : decode cX12_say 43 = .ok (.invokevirtual 348, 3) := by decide +kernel
theorem dX12_say_46 : decode cX12_say 46 = .ok (.aload_n 0, 1) := by decide +kernel
theorem dX12_say_47 : decode cX12_say 47 = .ok (.iconst 0, 1) := by decide +kernel
theorem dX12_say_48 : decode cX12_say 48 = .ok (.putfield 361, 3) := by decide +kernel
theorem dX12_say_51 : decode cX12_say 51 = .ok (.aload_n 0, 1) := by decide +kernel
theorem dX12_say_52 : decode cX12_say 52 = .ok (.bipush 91, 2) := by decide +kernel
theorem dX12_say_54 : decode cX12_say 54 = .ok (.invokevirtual 364, 3) := by decide +kernel
theorem dX12_say_57 : decode cX12_say 57 = .ok (.iconst 1, 1) := by decide +kernel
theorem dX12_say_58 : decode cX12_say 58 = .ok (.aload_n 0, 1) := by decide +kernel
theorem dX12_say_59 : decode cX12_say 59 = .ok (.getfield 338, 3) := by decide +kernel
theorem dX12_say_62 : decode cX12_say 62 = .ok (.invokestatic 302, 3) := by decide +kernel
theorem dX12_say_65 : decode cX12_say 65 = .ok (.istore_n 3, 1) := by decide +kernel
theorem dX12_say_66 : decode cX12_say 66 = .ok (.aload_n 0, 1) := by decide +kernel
theorem dX12_say_67 : decode cX12_say 67 = .ok (.getfield 338, 3) := by decide +kernel
theorem dX12_say_70 : decode cX12_say 70 = .ok (.iconst (-1), 1) := by decide +kernel
theorem dX12_say_71 : decode cX12_say 71 = .ok (.if_icmp .eq 54, 3) := by decide +kernel
theorem dX12_say_74 : decode cX12_say 74 = .ok (.iload_n 3, 1) := by decide +kernel
theorem dX12_say_75 : decode cX12_say 75 = .ok (.aload_n 0, 1) := by decide +kernel
theorem dX12_say_76 : decode cX12_say 76 = .ok (.getfield 341, 3) := by decide +kernel
theorem dX12_say_79 : decode cX12_say 79 = .ok (.iadd, 1) := by decide +kernel
theorem dX12_say_80 : decode cX12_say 80 = .ok (.iload_n 2, 1) := by decide +kernel
theorem dX12_say_81 : decode cX12_say 81 = .ok (.if_icmp .gt 44, 3) := by decide +kernel
theorem dX12_say_84 : decode cX12_say 84 = .ok (.aload_n 0, 1) := by decide +kernel
theorem dX12_say_85 : decode cX12_say 85 = .ok (.iload_n 1, 1) := by decide +kernel
theorem dX12_say_86 : decode cX12_say 86 = .ok (.iconst 0, 1) := by decide +kernel
theorem dX12_say_87 : decode cX12_say 87 = .ok (.iload_n 3, 1) := by decide +kernel
theorem dX12_say_88 : decode cX12_say 88 = .ok (.iconst 0, 1) := by decide +kernel
theorem dX12_say_89 : decode cX12_say 89 = .ok (.invokevirtual 379, 3) := by decide +kernel
theorem dX12_say_92 : decode cX12_say 92 = .ok (.aload_n 0, 1) := by decide +kernel
theorem dX12_say_93 : decode cX12_say 93 = .ok (.iload_n 3, 1) := by decide +kernel
theorem dX12_say_94 : decode cX12_say 94 = .ok (.invokevirtual 374, 3) := by decide +kernel
theorem dX12_say_97 : decode cX12_say 97 = .ok (.aload_n 0, 1) := by decide +kernel
theorem dX12_say_98 : decode cX12_say 98 = .ok (.bipush 40, 2) := by decide +kernel
theorem dX12_say_100 : decode cX12_say 100 = .ok (.invokevirtual 364, 3) := by decide +kernel
theorem dX12_say_103 : decode cX12_say 103 = .ok (.aload_n 0, 1) := by decide +kernel
theorem dX12_say_104 : decode cX12_say 104 = .ok (.iload_n 1, 1) := by decide +kernel
theorem dX12_say_105 : decode cX12_say 105 = .ok (.iload_n 3, 1) := by decide +kernel
theorem dX12_say_106 : decode cX12_say 106 = .ok (.iload_n 3, 1) := by decide +kernel
theorem dX12_say_107 : decode cX12_say 107 = .ok (.aload_n 0, 1) := by decide +kernel
theorem dX12_say_108 : decode cX12_say 108 = .ok (.getfield 341, 3) := by decide +kernel
theorem dX12_say_111 : decode cX12_say 111 = .ok (.iadd, 1) := by decide +kernel
theorem dX12_say_112 : decode cX12_say 112 = .ok (.iconst 1, 1) := by decide +kernel
theorem dX12_say_113 : decode cX12_say 113 = .ok (.invokevirtual 379, 3) := by decide +kernel
theorem dX12_say_116 : decode cX12_say 116 = .ok (.aload_n 0, 1) := by decide +kernel
theorem dX12_say_117 : decode cX12_say 117 = .ok (.bipush 41, 2) := by decide +kernel
theorem dX12_say_119 : decode cX12_say 119 = .ok (.invokevirtual 364, 3) := by decide +kernel
theorem dX12_say_122 : decode cX12_say 122 = .ok (.goto 51, 3) := by decide +kernel
theorem dX12_say_125 : decode cX12_say 125 = .ok (.iload_n 2, 1) := by decide +kernel
theorem dX12_say_126 : decode cX12_say 126 = .ok (.aload_n 0, 1) := by decide +kernel
theorem dX12_say_127 : decode cX12_say 127 = .ok (.getfield 19, 3) := by decide +kernel
theorem dX12_say_130 : decode cX12_say 130 = .ok (.iload_n 1, 1) := by decide +kernel
theorem dX12_say_131 : decode cX12_say 131 = .ok (.iaload, 1) := by decide +kernel
theorem dX12_say_132 : decode cX12_say 132 = .ok (.invokestatic 383, 3) := by decide +kernel
theorem dX12_say_135 : decode cX12_say 135 = .ok (.istore 4, 2) := by decide +kernel
theorem dX12_say_137 : decode cX12_say 137 = .ok (.aload_n 0, 1) := by decide +kernel
theorem dX12_say_138 : decode cX12_say 138 = .ok (.iload_n 1, 1) := by decide +kernel
theorem dX12_say_139 : decode cX12_say 139 = .ok (.iconst 0, 1) := by decide +kernel
theorem dX12_say_140 : decode cX12_say 140 = .ok (.iload 4, 2) := by decide +kernel
theorem dX12_say_142 : decode cX12_say 142 = .ok (.iconst 0, 1) := by decide +kernel
theorem dX12_say_143 : decode cX12_say 143 = .ok (.invokevirtual 379, 3) := by decide +kernel
theorem dX12_say_146 : decode cX12_say 146 = .ok (.iload 4, 2) := by decide +kernel
theorem dX12_say_148 : decode cX12_say 148 = .ok (.aload_n 0, 1) := by decide +kernel
theorem dX12_say_149 : decode cX12_say 149 = .ok (.getfield 19, 3) := by decide +kernel
theorem dX12_say_152 : decode cX12_say 152 = .ok (.iload_n 1, 1) := by decide +kernel
theorem dX12_say_153 : decode cX12_say 153 = .ok (.iaload, 1) := by decide +kernel
theorem dX12_say_154 : decode cX12_say 154 = .ok (.if_icmp .lt 13, 3) := by decide +kernel
theorem dX12_say_157 : decode cX12_say 157 = .ok (.aload_n 0, 1) := by decide +kernel
theorem dX12_say_158 : decode cX12_say 158 = .ok (.getfield 22, 3) := by decide +kernel
theorem dX12_say_161 : decode cX12_say 161 = .ok (.iload_n 1, 1) := by decide +kernel
theorem dX12_say_162 : decode cX12_say 162 = .ok (.iaload, 1) := by decide +kernel
theorem dX12_say_163 : decode cX12_say 163 = .ok (.iconst 1, 1) := by decide +kernel
theorem dX12_say_164 : decode cX12_say 164 = .ok (.if_icmp .eq 9, 3) := by decide +kernel
theorem dX12_say_167 : decode cX12_say 167 = .ok (.aload_n 0, 1) := by decide +kernel
theorem dX12_say_168 : decode cX12_say 168 = .ok (.bipush 126, 2) := by decide +kernel
theorem dX12_say_170 : decode cX12_say 170 = .ok (.invokevirtual 364, 3) := by decide +kernel
theorem dX12_say_173 : decode cX12_say 173 = .ok (.aload_n 0, 1) := by decide +kernel
theorem dX12_say_174 : decode cX12_say 174 = .ok (.bipush 93, 2) := by decide +kernel
theorem dX12_say_176 : decode cX12_say 176 = .ok (.invokevirtual 364, 3) := by decide +kernel
theorem dX12_say_179 : decode cX12_say 179 = .ok (.aload_n 0, 1) := by decide +kernel
theorem dX12_say_180 : decode cX12_say 180 = .ok (.getfield 361, 3) := by decide +kernel
theorem dX12_say_183 : decode cX12_say 183 = .ok (.ireturn, 1) := by decide +kernel
theorem dX12_said_0 : decode cX12_said 0 = .ok (.aload_n 0, 1) := by decide +kernel
theorem dX12_said_1 : decode cX12_said 1 = .ok (.iconst 0, 1) := by decide +kernel
theorem dX12_said_2 : decode cX12_said 2 = .ok (.putfield 73, 3) := by decide +kernel
theorem dX12_said_5 : decode cX12_said 5 = .ok (.iload_n 1, 1) := by decide +kernel
theorem dX12_said_6 : decode cX12_said 6 = .ok (.i2l, 1) := by decide +kernel
theorem dX12_said_7 : decode cX12_said 7 = .ok (.lconst 0, 1) := by decide +kernel
theorem dX12_said_8 : decode cX12_said 8 = .ok (.aload_n 0, 1) := by decide +kernel
theorem dX12_said_9 : decode cX12_said 9 = .ok (.getfield 361, 3) := by decide +kernel
theorem dX12_said_12 : decode cX12_said 12 = .ok (.iconst 1, 1) := by decide +kernel
theorem dX12_said_13 : decode cX12_said 13 = .ok (.isub, 1) := by decide +kernel
theorem dX12_said_14 : decode cX12_said 14 = .ok (.i2l, 1) := by decide +kernel
theorem dX12_said_15 : decode cX12_said 15 = .ok (.invokestatic 78, 3) := by decide +kernel
theorem dX12_said_18 : decode cX12_said 18 = .ok (.ifCond .eq 12, 3) := by decide +kernel
theorem dX12_said_21 : decode cX12_said 21 = .ok (.aload_n 0, 1) := by decide +kernel
theorem dX12_said_22 : decode cX12_said 22 = .ok (.getfield 53, 3) := by decide +kernel
theorem dX12_said_25 : decode cX12_said 25 = .ok (.iload_n 1, 1) := by decide +kernel
theorem dX12_said_26 : decode cX12_said 26 = .ok (.iaload, 1) := by decide +kernel
theorem dX12_said_27 : decode cX12_said 27 = .ok (.goto 4, 3) := by decide +kernel
theorem dX12_said_30 : decode cX12_said 30 = .ok (.iconst (-1), 1) := by decide +kernel
theorem dX12_said_31 : decode cX12_said 31 = .ok (.ireturn, 1) := by decide +kernel
theorem dX12_feed_0 : decode cX12_feed 0 = .ok (.aload_n 0, 1) := by decide +kernel
theorem dX12_feed_1 : decode cX12_feed 1 = .ok (.iconst 0, 1) := by decide +kernel
theorem dX12_feed_2 : decode cX12_feed 2 = .ok (.putfield 73, 3) := by decide +kernel
theorem dX12_feed_5 : decode cX12_feed 5 = .ok (.aload_n 0, 1) := by decide +kernel
theorem dX12_feed_6 : decode cX12_feed 6 = .ok (.getfield 289, 3) := by decide +kernel
theorem dX12_feed_9 : decode cX12_feed 9 = .ok (.bipush 20, 2) := by decide +kernel
theorem dX12_feed_11 : decode cX12_feed 11 = .ok (.iadd, 1) := by decide +kernel
theorem dX12_feed_12 : decode cX12_feed 12 = .ok (.sipush 200, 3) := by decide +kernel
theorem dX12_feed_15 : decode cX12_feed 15 = .ok (.if_icmp .le 5, 3) := by decide +kernel
theorem dX12_feed_18 : decode cX12_feed 18 = .ok (.iconst (-1), 1) := by decide +kernel
theorem dX12_feed_19 : decode cX12_feed 19 = .ok (.ireturn, 1) := by decide +kernel
theorem dX12_feed_20 : decode cX12_feed 20 = .ok (.iconst 0, 1) := by decide +kernel
theorem dX12_feed_21 : decode cX12_feed 21 = .ok (.istore 6, 2) := by decide +kernel
theorem dX12_feed_23 : decode cX12_feed 23 = .ok (.iload 6, 2) := by decide +kernel
theorem dX12_feed_25 : decode cX12_feed 25 = .ok (.bipush 20, 2) := by decide +kernel
theorem dX12_feed_27 : decode cX12_feed 27 = .ok (.if_icmp .ge 93, 3) := by decide +kernel
theorem dX12_feed_30 : decode cX12_feed 30 = .ok (.iload 6, 2) := by decide +kernel
theorem dX12_feed_32 : decode cX12_feed 32 = .ok (.iconst 4, 1) := by decide +kernel
theorem dX12_feed_33 : decode cX12_feed 33 = .ok (.if_icmp .ge 7, 3) := by decide +kernel
theorem dX12_feed_36 : decode cX12_feed 36 = .ok (.iload_n 1, 1) := by decide +kernel
theorem dX12_feed_37 : decode cX12_feed 37 = .ok (.goto 39, 3) := by decide +kernel
theorem dX12_feed_40 : decode cX12_feed 40 = .ok (.iload 6, 2) := by decide +kernel
theorem dX12_feed_42 : decode cX12_feed 42 = .ok (.bipush 8, 2) := by decide +kernel
theorem dX12_feed_44 : decode cX12_feed 44 = .ok (.if_icmp .ge 7, 3) := by decide +kernel
theorem dX12_feed_47 : decode cX12_feed 47 = .ok (.iload_n 2, 1) := by decide +kernel
theorem dX12_feed_48 : decode cX12_feed 48 = .ok (.goto 28, 3) := by decide +kernel
theorem dX12_feed_51 : decode cX12_feed 51 = .ok (.iload 6, 2) := by decide +kernel
theorem dX12_feed_53 : decode cX12_feed 53 = .ok (.bipush 12, 2) := by decide +kernel
theorem dX12_feed_55 : decode cX12_feed 55 = .ok (.if_icmp .ge 7, 3) := by decide +kernel
theorem dX12_feed_58 : decode cX12_feed 58 = .ok (.iload_n 3, 1) := by decide +kernel
theorem dX12_feed_59 : decode cX12_feed 59 = .ok (.goto 17, 3) := by decide +kernel
theorem dX12_feed_62 : decode cX12_feed 62 = .ok (.iload 6, 2) := by decide +kernel
theorem dX12_feed_64 : decode cX12_feed 64 = .ok (.bipush 16, 2) := by decide +kernel
theorem dX12_feed_66 : decode cX12_feed 66 = .ok (.if_icmp .ge 8, 3) := by decide +kernel
theorem dX12_feed_69 : decode cX12_feed 69 = .ok (.iload 4, 2) := by decide +kernel
theorem dX12_feed_71 : decode cX12_feed 71 = .ok (.goto 5, 3) := by decide +kernel
theorem dX12_feed_74 : decode cX12_feed 74 = .ok (.iload 5, 2) := by decide +kernel
theorem dX12_feed_76 : decode cX12_feed 76 = .ok (.istore 7, 2) := by decide +kernel
theorem dX12_feed_78 : decode cX12_feed 78 = .ok (.aload_n 0, 1) := by decide +kernel
theorem dX12_feed_79 : decode cX12_feed 79 = .ok (.getfield 56, 3) := by decide +kernel
theorem dX12_feed_82 : decode cX12_feed 82 = .ok (.aload_n 0, 1) := by decide +kernel
theorem dX12_feed_83 : decode cX12_feed 83 = .ok (.getfield 289, 3) := by decide +kernel
theorem dX12_feed_86 : decode cX12_feed 86 = .ok (.iload 7, 2) := by decide +kernel
theorem dX12_feed_88 : decode cX12_feed 88 = .ok (.bipush 24, 2) := by decide +kernel
theorem dX12_feed_90 : decode cX12_feed 90 = .ok (.bipush 8, 2) := by decide +kernel
theorem dX12_feed_92 : decode cX12_feed 92 = .ok (.iload 6, 2) := by decide +kernel
theorem dX12_feed_94 : decode cX12_feed 94 = .ok (.iconst 4, 1) := by decide +kernel
theorem dX12_feed_95 : decode cX12_feed 95 = .ok (.irem, 1) := by decide +kernel
theorem dX12_feed_96 : decode cX12_feed 96 = .ok (.imul, 1) := by decide +kernel
theorem dX12_feed_97 : decode cX12_feed 97 = .ok (.isub, 1) := by decide +kernel
theorem dX12_feed_98 : decode cX12_feed 98 = .ok (.ishr, 1) := by decide +kernel
theorem dX12_feed_99 : decode cX12_feed 99 = .ok (.sipush 255, 3) := by decide +kernel
theorem dX12_feed_102 : decode cX12_feed 102 = .ok (.iand, 1) := by decide +kernel
theorem dX12_feed_103 : decode cX12_feed 103 = .ok (.iastore, 1) := by decide +kernel
theorem dX12_feed_104 : decode cX12_feed 104 = .ok (.aload_n 0, 1) := by decide +kernel
theorem dX12_feed_105 : decode cX12_feed 105 = .ok (.dup, 1) := by decide +kernel
theorem dX12_feed_106 : decode cX12_feed 106 = .ok (.getfield 289, 3) := by decide +kernel
theorem dX12_feed_109 : decode cX12_feed 109 = .ok (.iconst 1, 1) := by decide +kernel
theorem dX12_feed_110 : decode cX12_feed 110 = .ok (.iadd, 1) := by decide +kernel
theorem dX12_feed_111 : decode cX12_feed 111 = .ok (.putfield 289, 3) := by decide +kernel
theorem dX12_feed_114 : decode cX12_feed 114 = .ok (.iinc 6 1, 3) := by decide +kernel
theorem dX12_feed_117 : decode cX12_feed 117 = .ok (.goto (-94), 3) := by decide +kernel
theorem dX12_feed_120 : decode cX12_feed 120 = .ok (.aload_n 0, 1) := by decide +kernel
theorem dX12_feed_121 : decode cX12_feed 121 = .ok (.getfield 289, 3) := by decide +kernel
theorem dX12_feed_124 : decode cX12_feed 124 = .ok (.ireturn, 1) := by decide +kernel
theorem dX12_fault_0 : decode cX12_fault 0 = .ok (.aload_n 0, 1) := by decide +kernel
theorem dX12_fault_1 : decode cX12_fault 1 = .ok (.iconst 0, 1) := by decide +kernel
theorem dX12_fault_2 : decode cX12_fault 2 = .ok (.putfield 73, 3) := by decide +kernel
theorem dX12_fault_5 : decode cX12_fault 5 = .ok (.aload_n 0, 1) := by decide +kernel
theorem dX12_fault_6 : decode cX12_fault 6 = .ok (.getfield 62, 3) := by decide +kernel
theorem dX12_fault_9 : decode cX12_fault 9 = .ok (.ireturn, 1) := by decide +kernel
theorem dX12_byteAt_0 : decode cX12_byteAt 0 = .ok (.iload_n 1, 1) := by decide +kernel
theorem dX12_byteAt_1 : decode cX12_byteAt 1 = .ok (.aload_n 0, 1) := by decide +kernel
theorem dX12_byteAt_2 : decode cX12_byteAt 2 = .ok (.getfield 386, 3) := by decide +kernel
theorem dX12_byteAt_5 : decode cX12_byteAt 5 = .ok (.if_icmp .ge 12, 3) := by decide +kernel
theorem dX12_byteAt_8 : decode cX12_byteAt 8 = .ok (.aload_n 0, 1) := by decide +kernel
theorem dX12_byteAt_9 : decode cX12_byteAt 9 = .ok (.getfield 56, 3) := by decide +kernel
theorem dX12_byteAt_12 : decode cX12_byteAt 12 = .ok (.iload_n 1, 1) := by decide +kernel
theorem dX12_byteAt_13 : decode cX12_byteAt 13 = .ok (.iaload, 1) := by decide +kernel
theorem dX12_byteAt_14 : decode cX12_byteAt 14 = .ok (.goto 4, 3) := by decide +kernel
theorem dX12_byteAt_17 : decode cX12_byteAt 17 = .ok (.iconst (-1), 1) := by decide +kernel
theorem dX12_byteAt_18 : decode cX12_byteAt 18 = .ok (.ireturn, 1) := by decide +kernel
theorem dX12_isSmall_0 : decode cX12_isSmall 0 = .ok (.iload_n 0, 1) := by decide +kernel
theorem dX12_isSmall_1 : decode cX12_isSmall 1 = .ok (.bipush 97, 2) := by decide +kernel
theorem dX12_isSmall_3 : decode cX12_isSmall 3 = .ok (.if_icmp .lt 13, 3) := by decide +kernel
theorem dX12_isSmall_6 : decode cX12_isSmall 6 = .ok (.iload_n 0, 1) := by decide +kernel
theorem dX12_isSmall_7 : decode cX12_isSmall 7 = .ok (.bipush 122, 2) := by decide +kernel
theorem dX12_isSmall_9 : decode cX12_isSmall 9 = .ok (.if_icmp .gt 7, 3) := by decide +kernel
theorem dX12_isSmall_12 : decode cX12_isSmall 12 = .ok (.iconst 1, 1) := by decide +kernel
theorem dX12_isSmall_13 : decode cX12_isSmall 13 = .ok (.goto 4, 3) := by decide +kernel
theorem dX12_isSmall_16 : decode cX12_isSmall 16 = .ok (.iconst 0, 1) := by decide +kernel
theorem dX12_isSmall_17 : decode cX12_isSmall 17 = .ok (.ireturn, 1) := by decide +kernel
theorem dX12_isFigure_0 : decode cX12_isFigure 0 = .ok (.iload_n 0, 1) := by decide +kernel
theorem dX12_isFigure_1 : decode cX12_isFigure 1 = .ok (.bipush 48, 2) := by decide +kernel
theorem dX12_isFigure_3 : decode cX12_isFigure 3 = .ok (.if_icmp .lt 13, 3) := by decide +kernel
theorem dX12_isFigure_6 : decode cX12_isFigure 6 = .ok (.iload_n 0, 1) := by decide +kernel
theorem dX12_isFigure_7 : decode cX12_isFigure 7 = .ok (.bipush 57, 2) := by decide +kernel
theorem dX12_isFigure_9 : decode cX12_isFigure 9 = .ok (.if_icmp .gt 7, 3) := by decide +kernel
theorem dX12_isFigure_12 : decode cX12_isFigure 12 = .ok (.iconst 1, 1) := by decide +kernel
theorem dX12_isFigure_13 : decode cX12_isFigure 13 = .ok (.goto 4, 3) := by decide +kernel
theorem dX12_isFigure_16 : decode cX12_isFigure 16 = .ok (.iconst 0, 1) := by decide +kernel
theorem dX12_isFigure_17 : decode cX12_isFigure 17 = .ok (.ireturn, 1) := by decide +kernel
theorem dX12_step_0 : decode cX12_step 0 = .ok (.aload_n 0, 1) := by decide +kernel
theorem dX12_step_1 : decode cX12_step 1 = .ok (.aload_n 0, 1) := by decide +kernel
theorem dX12_step_2 : decode cX12_step 2 = .ok (.getfield 389, 3) := by decide +kernel
theorem dX12_step_5 : decode cX12_step 5 = .ok (.invokevirtual 392, 3) := by decide +kernel
theorem dX12_step_8 : decode cX12_step 8 = .ok (.bipush 32, 2) := by decide +kernel
theorem dX12_step_10 : decode cX12_step 10 = .ok (.if_icmp .eq 16, 3) := by decide +kernel
theorem dX12_step_13 : decode cX12_step 13 = .ok (.aload_n 0, 1) := by decide +kernel
theorem dX12_step_14 : decode cX12_step 14 = .ok (.aload_n 0, 1) := by decide +kernel
theorem dX12_step_15 : decode cX12_step 15 = .ok (.getfield 389, 3) := by decide +kernel
theorem dX12_step_18 : decode cX12_step 18 = .ok (.invokevirtual 392, 3) := by decide +kernel
theorem dX12_step_21 : decode cX12_step 21 = .ok (.bipush 10, 2) := by decide +kernel
theorem dX12_step_23 : decode cX12_step 23 = .ok (.if_icmp .ne 16, 3) := by decide +kernel
theorem dX12_step_26 : decode cX12_step 26 = .ok (.aload_n 0, 1) := by decide +kernel
theorem dX12_step_27 : decode cX12_step 27 = .ok (.dup, 1) := by decide +kernel
theorem dX12_step_28 : decode cX12_step 28 = .ok (.getfield 389, 3) := by decide +kernel
theorem dX12_step_31 : decode cX12_step 31 = .ok (.iconst 1, 1) := by decide +kernel
theorem dX12_step_32 : decode cX12_step 32 = .ok (.iadd, 1) := by decide +kernel
theorem dX12_step_33 : decode cX12_step 33 = .ok (.putfield 389, 3) := by decide +kernel
theorem dX12_step_36 : decode cX12_step 36 = .ok (.goto (-36), 3) := by decide +kernel
theorem dX12_step_39 : decode cX12_step 39 = .ok (.aload_n 0, 1) := by decide +kernel
theorem dX12_step_40 : decode cX12_step 40 = .ok (.aload_n 0, 1) := by decide +kernel
theorem dX12_step_41 : decode cX12_step 41 = .ok (.getfield 389, 3) := by decide +kernel
theorem dX12_step_44 : decode cX12_step 44 = .ok (.putfield 395, 3) := by decide +kernel
theorem dX12_step_47 : decode cX12_step 47 = .ok (.aload_n 0, 1) := by decide +kernel
theorem dX12_step_48 : decode cX12_step 48 = .ok (.aload_n 0, 1) := by decide +kernel
theorem dX12_step_49 : decode cX12_step 49 = .ok (.getfield 389, 3) := by decide +kernel
theorem dX12_step_52 : decode cX12_step 52 = .ok (.invokevirtual 392, 3) := by decide +kernel
theorem dX12_step_55 : decode cX12_step 55 = .ok (.istore_n 1, 1) := by decide +kernel
theorem dX12_step_56 : decode cX12_step 56 = .ok (.iload_n 1, 1) := by decide +kernel
theorem dX12_step_57 : decode cX12_step 57 = .ok (.iconst (-1), 1) := by decide +kernel
theorem dX12_step_58 : decode cX12_step 58 = .ok (.if_icmp .ne 11, 3) := by decide +kernel
theorem dX12_step_61 : decode cX12_step 61 = .ok (.aload_n 0, 1) := by decide +kernel
theorem dX12_step_62 : decode cX12_step 62 = .ok (.iconst 0, 1) := by decide +kernel
theorem dX12_step_63 : decode cX12_step 63 = .ok (.putfield 398, 3) := by decide +kernel
theorem dX12_step_66 : decode cX12_step 66 = .ok (.goto 102, 3) := by decide +kernel
theorem dX12_step_69 : decode cX12_step 69 = .ok (.iload_n 1, 1) := by decide +kernel
theorem dX12_step_70 : decode cX12_step 70 = .ok (.invokestatic 401, 3) := by decide +kernel
theorem dX12_step_73 : decode cX12_step 73 = .ok (.ifCond .eq 38, 3) := by decide +kernel
theorem dX12_step_76 : decode cX12_step 76 = .ok (.aload_n 0, 1) := by decide +kernel
theorem dX12_step_77 : decode cX12_step 77 = .ok (.aload_n 0, 1) := by decide +kernel
theorem dX12_step_78 : decode cX12_step 78 = .ok (.getfield 389, 3) := by decide +kernel
theorem dX12_step_81 : decode cX12_step 81 = .ok (.invokevirtual 392, 3) := by decide +kernel
theorem dX12_step_84 : decode cX12_step 84 = .ok (.invokestatic 401, 3) := by decide +kernel
theorem dX12_step_87 : decode cX12_step 87 = .ok (.ifCond .eq 16, 3) := by decide +kernel
theorem dX12_step_90 : decode cX12_step 90 = .ok (.aload_n 0, 1) := by decide +kernel
theorem dX12_step_91 : decode cX12_step 91 = .ok (.dup, 1) := by decide +kernel
theorem dX12_step_92 : decode cX12_step 92 = .ok (.getfield 389, 3) := by decide +kernel
theorem dX12_step_95 : decode cX12_step 95 = .ok (.iconst 1, 1) := by decide +kernel
theorem dX12_step_96 : decode cX12_step 96 = .ok (.iadd, 1) := by decide +kernel
theorem dX12_step_97 : decode cX12_step 97 = .ok (.putfield 389, 3) := by decide +kernel
theorem dX12_step_100 : decode cX12_step 100 = .ok (.goto (-24), 3) := by decide +kernel
theorem dX12_step_103 : decode cX12_step 103 = .ok (.aload_n 0, 1) := by decide +kernel
theorem dX12_step_104 : decode cX12_step 104 = .ok (.iconst 1, 1) := by decide +kernel
theorem dX12_step_105 : decode cX12_step 105 = .ok (.putfield 398, 3) := by decide +kernel
theorem dX12_step_108 : decode cX12_step 108 = .ok (.goto 60, 3) := by decide +kernel
theorem dX12_step_111 : decode cX12_step 111 = .ok (.iload_n 1, 1) := by decide +kernel
theorem dX12_step_112 : decode cX12_step 112 = .ok (.invokestatic 404, 3) := by decide +kernel
theorem dX12_step_115 : decode cX12_step 115 = .ok (.ifCond .eq 38, 3) := by decide +kernel
theorem dX12_step_118 : decode cX12_step 118 = .ok (.aload_n 0, 1) := by decide +kernel
theorem dX12_step_119 : decode cX12_step 119 = .ok (.aload_n 0, 1) := by decide +kernel
theorem dX12_step_120 : decode cX12_step 120 = .ok (.getfield 389, 3) := by decide +kernel
theorem dX12_step_123 : decode cX12_step 123 = .ok (.invokevirtual 392, 3) := by decide +kernel
theorem dX12_step_126 : decode cX12_step 126 = .ok (.invokestatic 404, 3) := by decide +kernel
theorem dX12_step_129 : decode cX12_step 129 = .ok (.ifCond .eq 16, 3) := by decide +kernel
theorem dX12_step_132 : decode cX12_step 132 = .ok (.aload_n 0, 1) := by decide +kernel
theorem dX12_step_133 : decode cX12_step 133 = .ok (.dup, 1) := by decide +kernel
theorem dX12_step_134 : decode cX12_step 134 = .ok (.getfield 389, 3) := by decide +kernel
theorem dX12_step_137 : decode cX12_step 137 = .ok (.iconst 1, 1) := by decide +kernel
theorem dX12_step_138 : decode cX12_step 138 = .ok (.iadd, 1) := by decide +kernel
theorem dX12_step_139 : decode cX12_step 139 = .ok (.putfield 389, 3) := by decide +kernel
theorem dX12_step_142 : decode cX12_step 142 = .ok (.goto (-24), 3) := by decide +kernel
theorem dX12_step_145 : decode cX12_step 145 = .ok (.aload_n 0, 1) := by decide +kernel
theorem dX12_step_146 : decode cX12_step 146 = .ok (.iconst 2, 1) := by decide +kernel
theorem dX12_step_147 : decode cX12_step 147 = .ok (.putfield 398, 3) := by decide +kernel
theorem dX12_step_150 : decode cX12_step 150 = .ok (.goto 18, 3) := by decide +kernel
theorem dX12_step_153 : decode cX12_step 153 = .ok (.aload_n 0, 1) := by decide +kernel
theorem dX12_step_154 : decode cX12_step 154 = .ok (.dup, 1) := by decide +kernel
theorem dX12_step_155 : decode cX12_step 155 = .ok (.getfield 389, 3) := by decide +kernel
theorem dX12_step_158 : decode cX12_step 158 = .ok (.iconst 1, 1) := by decide +kernel
theorem dX12_step_159 : decode cX12_step 159 = .ok (.iadd, 1) := by decide +kernel
theorem dX12_step_160 : decode cX12_step 160 = .ok (.putfield 389, 3) := by decide +kernel
theorem dX12_step_163 : decode cX12_step 163 = .ok (.aload_n 0, 1) := by decide +kernel
theorem dX12_step_164 : decode cX12_step 164 = .ok (.iconst 3, 1) := by decide +kernel
theorem dX12_step_165 : decode cX12_step 165 = .ok (.putfield 398, 3) := by decide +kernel
theorem dX12_step_168 : decode cX12_step 168 = .ok (.aload_n 0, 1) := by decide +kernel
theorem dX12_step_169 : decode cX12_step 169 = .ok (.aload_n 0, 1) := by decide +kernel
theorem dX12_step_170 : decode cX12_step 170 = .ok (.getfield 389, 3) := by decide +kernel
theorem dX12_step_173 : decode cX12_step 173 = .ok (.putfield 407, 3) := by decide +kernel
theorem dX12_step_176 : decode cX12_step 176 = .ok (.return_, 1) := by decide +kernel
theorem dX12_opens_0 : decode cX12_opens 0 = .ok (.aload_n 0, 1) := by decide +kernel
theorem dX12_opens_1 : decode cX12_opens 1 = .ok (.iload_n 1, 1) := by decide +kernel
theorem dX12_opens_2 : decode cX12_opens 2 = .ok (.putfield 386, 3) := by decide +kernel
theorem dX12_opens_5 : decode cX12_opens 5 = .ok (.aload_n 0, 1) := by decide +kernel
theorem dX12_opens_6 : decode cX12_opens 6 = .ok (.iconst 0, 1) := by decide +kernel
theorem dX12_opens_7 : decode cX12_opens 7 = .ok (.putfield 389, 3) := by decide +kernel
theorem dX12_opens_10 : decode cX12_opens 10 = .ok (.aload_n 0, 1) := by decide +kernel
theorem dX12_opens_11 : decode cX12_opens 11 = .ok (.iconst 0, 1) := by decide +kernel
theorem dX12_opens_12 : decode cX12_opens 12 = .ok (.putfield 410, 3) := by decide +kernel
theorem dX12_opens_15 : decode cX12_opens 15 = .ok (.aload_n 0, 1) := by decide +kernel
theorem dX12_opens_16 : decode cX12_opens 16 = .ok (.iconst 0, 1) := by decide +kernel
theorem dX12_opens_17 : decode cX12_opens 17 = .ok (.putfield 413, 3) := by decide +kernel
theorem dX12_opens_20 : decode cX12_opens 20 = .ok (.aload_n 0, 1) := by decide +kernel
theorem dX12_opens_21 : decode cX12_opens 21 = .ok (.invokevirtual 416, 3) := by decide +kernel
theorem dX12_opens_24 : decode cX12_opens 24 = .ok (.return_, 1) := by decide +kernel
theorem dX12_wrong_0 : decode cX12_wrong 0 = .ok (.aload_n 0, 1) := by decide +kernel
theorem dX12_wrong_1 : decode cX12_wrong 1 = .ok (.getfield 410, 3) := by decide +kernel
theorem dX12_wrong_4 : decode cX12_wrong 4 = .ok (.ifCond .eq 4, 3) := by decide +kernel
theorem dX12_wrong_7 : decode cX12_wrong 7 = .ok (.return_, 1) := by decide +kernel
theorem dX12_wrong_8 : decode cX12_wrong 8 = .ok (.aload_n 0, 1) := by decide +kernel
theorem dX12_wrong_9 : decode cX12_wrong 9 = .ok (.iload_n 1, 1) := by decide +kernel
theorem dX12_wrong_10 : decode cX12_wrong 10 = .ok (.putfield 410, 3) := by decide +kernel
theorem dX12_wrong_13 : decode cX12_wrong 13 = .ok (.aload_n 0, 1) := by decide +kernel
theorem dX12_wrong_14 : decode cX12_wrong 14 = .ok (.aload_n 0, 1) := by decide +kernel
theorem dX12_wrong_15 : decode cX12_wrong 15 = .ok (.getfield 395, 3) := by decide +kernel
theorem dX12_wrong_18 : decode cX12_wrong 18 = .ok (.putfield 419, 3) := by decide +kernel
theorem dX12_wrong_21 : decode cX12_wrong 21 = .ok (.return_, 1) := by decide +kernel
theorem dX12_pass_0 : decode cX12_pass 0 = .ok (.aload_n 0, 1) := by decide +kernel
theorem dX12_pass_1 : decode cX12_pass 1 = .ok (.getfield 410, 3) := by decide +kernel
theorem dX12_pass_4 : decode cX12_pass 4 = .ok (.ifCond .ne 7, 3) := by decide +kernel
theorem dX12_pass_7 : decode cX12_pass 7 = .ok (.aload_n 0, 1) := by decide +kernel
theorem dX12_pass_8 : decode cX12_pass 8 = .ok (.invokevirtual 416, 3) := by decide +kernel
theorem dX12_pass_11 : decode cX12_pass 11 = .ok (.return_, 1) := by decide +kernel
theorem dX12_isSign_0 : decode cX12_isSign 0 = .ok (.aload_n 0, 1) := by decide +kernel
theorem dX12_isSign_1 : decode cX12_isSign 1 = .ok (.getfield 410, 3) := by decide +kernel
theorem dX12_isSign_4 : decode cX12_isSign 4 = .ok (.ifCond .ne 28, 3) := by decide +kernel
theorem dX12_isSign_7 : decode cX12_isSign 7 = .ok (.aload_n 0, 1) := by decide +kernel
theorem dX12_isSign_8 : decode cX12_isSign 8 = .ok (.getfield 398, 3) := by decide +kernel
theorem dX12_isSign_11 : decode cX12_isSign 11 = .ok (.iconst 3, 1) := by decide +kernel
theorem dX12_isSign_12 : decode cX12_isSign 12 = .ok (.if_icmp .ne 20, 3) := by decide +kernel
theorem dX12_isSign_15 : decode cX12_isSign 15 = .ok (.aload_n 0, 1) := by decide +kernel
theorem dX12_isSign_16 : decode cX12_isSign 16 = .ok (.getfield 56, 3) := by decide +kernel
theorem dX12_isSign_19 : decode cX12_isSign 19 = .ok (.aload_n 0, 1) := by decide +kernel
theorem dX12_isSign_20 : decode cX12_isSign 20 = .ok (.getfield 395, 3) := by decide +kernel
theorem dX12_isSign_23 : decode cX12_isSign 23 = .ok (.iaload, 1) := by decide +kernel
theorem dX12_isSign_24 : decode cX12_isSign 24 = .ok (.iload_n 1, 1) := by decide +kernel
theorem dX12_isSign_25 : decode cX12_isSign 25 = .ok (.if_icmp .ne 7, 3) := by decide +kernel
theorem dX12_isSign_28 : decode cX12_isSign 28 = .ok (.iconst 1, 1) := by decide +kernel
theorem dX12_isSign_29 : decode cX12_isSign 29 = .ok (.goto 4, 3) := by decide +kernel
theorem dX12_isSign_32 : decode cX12_isSign 32 = .ok (.iconst 0, 1) := by decide +kernel
theorem dX12_isSign_33 : decode cX12_isSign 33 = .ok (.ireturn, 1) := by decide +kernel
theorem dX12_isWord_0 : decode cX12_isWord 0 = .ok (.aload_n 0, 1) := by decide +kernel
theorem dX12_isWord_1 : decode cX12_isWord 1 = .ok (.getfield 410, 3) := by decide +kernel
theorem dX12_isWord_4 : decode cX12_isWord 4 = .ok (.ifCond .ne 31, 3) := by decide +kernel
theorem dX12_isWord_7 : decode cX12_isWord 7 = .ok (.aload_n 0, 1) := by decide +kernel
theorem dX12_isWord_8 : decode cX12_isWord 8 = .ok (.getfield 398, 3) := by decide +kernel
theorem dX12_isWord_11 : decode cX12_isWord 11 = .ok (.iconst 1, 1) := by decide +kernel
theorem dX12_isWord_12 : decode cX12_isWord 12 = .ok (.if_icmp .ne 23, 3) := by decide +kernel
theorem dX12_isWord_15 : decode cX12_isWord 15 = .ok (.aload_n 1, 1) := by decide +kernel
theorem dX12_isWord_16 : decode cX12_isWord 16 = .ok (.invokevirtual 422, 3) := by decide +kernel
theorem dX12_isWord_19 : decode cX12_isWord 19 = .ok (.aload_n 0, 1) := by decide +kernel
theorem dX12_isWord_20 : decode cX12_isWord 20 = .ok (.getfield 407, 3) := by decide +kernel
theorem dX12_isWord_23 : decode cX12_isWord 23 = .ok (.aload_n 0, 1) := by decide +kernel
theorem dX12_isWord_24 : decode cX12_isWord 24 = .ok (.getfield 395, 3) := by decide +kernel
theorem dX12_isWord_27 : decode cX12_isWord 27 = .ok (.isub, 1) := by decide +kernel
theorem dX12_isWord_28 : decode cX12_isWord 28 = .ok (.if_icmp .ne 7, 3) := by decide +kernel
theorem dX12_isWord_31 : decode cX12_isWord 31 = .ok (.iconst 1, 1) := by decide +kernel
theorem dX12_isWord_32 : decode cX12_isWord 32 = .ok (.goto 4, 3) := by decide +kernel
theorem dX12_isWord_35 : decode cX12_isWord 35 = .ok (.iconst 0, 1) := by decide +kernel
theorem dX12_isWord_36 : decode cX12_isWord 36 = .ok (.istore_n 2, 1) := by decide +kernel
theorem dX12_isWord_37 : decode cX12_isWord 37 = .ok (.iconst 0, 1) := by decide +kernel
theorem dX12_isWord_38 : decode cX12_isWord 38 = .ok (.istore_n 3, 1) := by decide +kernel
theorem dX12_isWord_39 : decode cX12_isWord 39 = .ok (.iload_n 2, 1) := by decide +kernel
theorem dX12_isWord_40 : decode cX12_isWord 40 = .ok (.ifCond .eq 42, 3) := by decide +kernel
theorem dX12_isWord_43 : decode cX12_isWord 43 = .ok (.iload_n 3, 1) := by decide +kernel
theorem dX12_isWord_44 : decode cX12_isWord 44 = .ok (.aload_n 1, 1) := by decide +kernel
theorem dX12_isWord_45 : decode cX12_isWord 45 = .ok (.invokevirtual 422, 3) := by decide +kernel
theorem dX12_isWord_48 : decode cX12_isWord 48 = .ok (.if_icmp .ge 34, 3) := by decide +kernel
theorem dX12_isWord_51 : decode cX12_isWord 51 = .ok (.aload_n 1, 1) := by decide +kernel
theorem dX12_isWord_52 : decode cX12_isWord 52 = .ok (.iload_n 3, 1) := by decide +kernel
theorem dX12_isWord_53 : decode cX12_isWord 53 = .ok (.invokevirtual 427, 3) := by decide +kernel
theorem dX12_isWord_56 : decode cX12_isWord 56 = .ok (.aload_n 0, 1) := by decide +kernel
theorem dX12_isWord_57 : decode cX12_isWord 57 = .ok (.getfield 56, 3) := by decide +kernel
theorem dX12_isWord_60 : decode cX12_isWord 60 = .ok (.aload_n 0, 1) := by decide +kernel
theorem dX12_isWord_61 : decode cX12_isWord 61 = .ok (.getfield 395, 3) := by decide +kernel
theorem dX12_isWord_64 : decode cX12_isWord 64 = .ok (.iload_n 3, 1) := by decide +kernel
theorem dX12_isWord_65 : decode cX12_isWord 65 = .ok (.iadd, 1) := by decide +kernel
theorem dX12_isWord_66 : decode cX12_isWord 66 = .ok (.iaload, 1) := by decide +kernel
theorem dX12_isWord_67 : decode cX12_isWord 67 = .ok (.if_icmp .ne 7, 3) := by decide +kernel
theorem dX12_isWord_70 : decode cX12_isWord 70 = .ok (.iconst 1, 1) := by decide +kernel
theorem dX12_isWord_71 : decode cX12_isWord 71 = .ok (.goto 4, 3) := by decide +kernel
theorem dX12_isWord_74 : decode cX12_isWord 74 = .ok (.iconst 0, 1) := by decide +kernel
theorem dX12_isWord_75 : decode cX12_isWord 75 = .ok (.istore_n 2, 1) := by decide +kernel
theorem dX12_isWord_76 : decode cX12_isWord 76 = .ok (.iinc 3 1, 3) := by decide +kernel
theorem dX12_isWord_79 : decode cX12_isWord 79 = .ok (.goto (-40), 3) := by decide +kernel
theorem dX12_isWord_82 : decode cX12_isWord 82 = .ok (.iload_n 2, 1) := by decide +kernel
theorem dX12_isWord_83 : decode cX12_isWord 83 = .ok (.ireturn, 1) := by decide +kernel
theorem dX12_must_0 : decode cX12_must 0 = .ok (.aload_n 0, 1) := by decide +kernel
theorem dX12_must_1 : decode cX12_must 1 = .ok (.iload_n 1, 1) := by decide +kernel
theorem dX12_must_2 : decode cX12_must 2 = .ok (.invokevirtual 431, 3) := by decide +kernel
theorem dX12_must_5 : decode cX12_must 5 = .ok (.ifCond .ne 8, 3) := by decide +kernel
theorem dX12_must_8 : decode cX12_must 8 = .ok (.aload_n 0, 1) := by decide +kernel
theorem dX12_must_9 : decode cX12_must 9 = .ok (.iconst 1, 1) := by decide +kernel
theorem dX12_must_10 : decode cX12_must 10 = .ok (.invokevirtual 434, 3) := by decide +kernel
theorem dX12_must_13 : decode cX12_must 13 = .ok (.aload_n 0, 1) := by decide +kernel
theorem dX12_must_14 : decode cX12_must 14 = .ok (.invokevirtual 437, 3) := by decide +kernel
theorem dX12_must_17 : decode cX12_must 17 = .ok (.return_, 1) := by decide +kernel
theorem dX12_number_0 : decode cX12_number 0 = .ok (.aload_n 0, 1) := by decide +kernel
theorem dX12_number_1 : decode cX12_number 1 = .ok (.getfield 410, 3) := by decide +kernel
theorem dX12_number_4 : decode cX12_number 4 = .ok (.ifCond .ne 16, 3) := by decide +kernel
theorem dX12_number_7 : decode cX12_number 7 = .ok (.aload_n 0, 1) := by decide +kernel
theorem dX12_number_8 : decode cX12_number 8 = .ok (.getfield 398, 3) := by decide +kernel
theorem dX12_number_11 : decode cX12_number 11 = .ok (.iconst 2, 1) := by decide +kernel
theorem dX12_number_12 : decode cX12_number 12 = .ok (.if_icmp .eq 8, 3) := by decide +kernel
theorem dX12_number_15 : decode cX12_number 15 = .ok (.aload_n 0, 1) := by decide +kernel
theorem dX12_number_16 : decode cX12_number 16 = .ok (.iconst 1, 1) := by decide +kernel
theorem dX12_number_17 : decode cX12_number 17 = .ok (.invokevirtual 434, 3) := by decide +kernel
theorem dX12_number_20 : decode cX12_number 20 = .ok (.iconst 0, 1) := by decide +kernel
theorem dX12_number_21 : decode cX12_number 21 = .ok (.istore_n 3, 1) := by decide +kernel
theorem dX12_number_22 : decode cX12_number 22 = .ok (.aload_n 0, 1) := by decide +kernel
theorem dX12_number_23 : decode cX12_number 23 = .ok (.getfield 395, 3) := by decide +kernel
theorem dX12_number_26 : decode cX12_number 26 = .ok (.istore 4, 2) := by decide +kernel
theorem dX12_number_28 : decode cX12_number 28 = .ok (.aload_n 0, 1) := by decide +kernel
theorem dX12_number_29 : decode cX12_number 29 = .ok (.getfield 410, 3) := by decide +kernel
theorem dX12_number_32 : decode cX12_number 32 = .ok (.ifCond .ne 40, 3) := by decide +kernel
theorem dX12_number_35 : decode cX12_number 35 = .ok (.iload 4, 2) := by decide +kernel
theorem dX12_number_37 : decode cX12_number 37 = .ok (.aload_n 0, 1) := by decide +kernel
theorem dX12_number_38 : decode cX12_number 38 = .ok (.getfield 407, 3) := by decide +kernel
theorem dX12_number_41 : decode cX12_number 41 = .ok (.if_icmp .ge 31, 3) := by decide +kernel
theorem dX12_number_44 : decode cX12_number 44 = .ok (.ldc_w 440, 3) := by decide +kernel
theorem dX12_number_47 : decode cX12_number 47 = .ok (.bipush 10, 2) := by decide +kernel
theorem dX12_number_49 : decode cX12_number 49 = .ok (.iload_n 3, 1) := by decide +kernel
theorem dX12_number_50 : decode cX12_number 50 = .ok (.imul, 1) := by decide +kernel
theorem dX12_number_51 : decode cX12_number 51 = .ok (.aload_n 0, 1) := by decide +kernel
theorem dX12_number_52 : decode cX12_number 52 = .ok (.getfield 56, 3) := by decide +kernel
theorem dX12_number_55 : decode cX12_number 55 = .ok (.iload 4, 2) := by decide +kernel
theorem dX12_number_57 : decode cX12_number 57 = .ok (.iaload, 1) := by decide +kernel
theorem dX12_number_58 : decode cX12_number 58 = .ok (.iadd, 1) := by decide +kernel
theorem dX12_number_59 : decode cX12_number 59 = .ok (.bipush 48, 2) := by decide +kernel
theorem dX12_number_61 : decode cX12_number 61 = .ok (.isub, 1) := by decide +kernel
theorem dX12_number_62 : decode cX12_number 62 = .ok (.invokestatic 383, 3) := by decide +kernel
theorem dX12_number_65 : decode cX12_number 65 = .ok (.istore_n 3, 1) := by decide +kernel
theorem dX12_number_66 : decode cX12_number 66 = .ok (.iinc 4 1, 3) := by decide +kernel
theorem dX12_number_69 : decode cX12_number 69 = .ok (.goto (-41), 3) := by decide +kernel
theorem dX12_number_72 : decode cX12_number 72 = .ok (.aload_n 0, 1) := by decide +kernel
theorem dX12_number_73 : decode cX12_number 73 = .ok (.getfield 410, 3) := by decide +kernel
theorem dX12_number_76 : decode cX12_number 76 = .ok (.ifCond .ne 20, 3) := by decide +kernel
theorem dX12_number_79 : decode cX12_number 79 = .ok (.iload_n 3, 1) := by decide +kernel
theorem dX12_number_80 : decode cX12_number 80 = .ok (.i2l, 1) := by decide +kernel
theorem dX12_number_81 : decode cX12_number 81 = .ok (.iload_n 1, 1) := by decide +kernel
theorem dX12_number_82 : decode cX12_number 82 = .ok (.i2l, 1) := by decide +kernel
theorem dX12_number_83 : decode cX12_number 83 = .ok (.iload_n 2, 1) := by decide +kernel
theorem dX12_number_84 : decode cX12_number 84 = .ok (.i2l, 1) := by decide +kernel
theorem dX12_number_85 : decode cX12_number 85 = .ok (.invokestatic 78, 3) := by decide +kernel
theorem dX12_number_88 : decode cX12_number 88 = .ok (.ifCond .ne 8, 3) := by decide +kernel
theorem dX12_number_91 : decode cX12_number 91 = .ok (.aload_n 0, 1) := by decide +kernel
theorem dX12_number_92 : decode cX12_number 92 = .ok (.iconst 2, 1) := by decide +kernel
theorem dX12_number_93 : decode cX12_number 93 = .ok (.invokevirtual 434, 3) := by decide +kernel
theorem dX12_number_96 : decode cX12_number 96 = .ok (.aload_n 0, 1) := by decide +kernel
theorem dX12_number_97 : decode cX12_number 97 = .ok (.invokevirtual 437, 3) := by decide +kernel
theorem dX12_number_100 : decode cX12_number 100 = .ok (.iload_n 3, 1) := by decide +kernel
theorem dX12_number_101 : decode cX12_number 101 = .ok (.ireturn, 1) := by decide +kernel
theorem dX12_ends_0 : decode cX12_ends 0 = .ok (.aload_n 0, 1) := by decide +kernel
theorem dX12_ends_1 : decode cX12_ends 1 = .ok (.iconst 0, 1) := by decide +kernel
theorem dX12_ends_2 : decode cX12_ends 2 = .ok (.putfield 289, 3) := by decide +kernel
theorem dX12_ends_5 : decode cX12_ends 5 = .ok (.aload_n 0, 1) := by decide +kernel
theorem dX12_ends_6 : decode cX12_ends 6 = .ok (.aload_n 0, 1) := by decide +kernel
theorem dX12_ends_7 : decode cX12_ends 7 = .ok (.getfield 410, 3) := by decide +kernel
theorem dX12_ends_10 : decode cX12_ends 10 = .ok (.ifCond .ne 7, 3) := by decide +kernel
theorem dX12_ends_13 : decode cX12_ends 13 = .ok (.iconst (-1), 1) := by decide +kernel
theorem dX12_ends_14 : decode cX12_ends 14 = .ok (.goto 7, 3) := by decide +kernel
theorem dX12_ends_17 : decode cX12_ends 17 = .ok (.aload_n 0, 1) := by decide +kernel
theorem dX12_ends_18 : decode cX12_ends 18 = .ok (.getfield 419, 3) := by decide +kernel
theorem dX12_ends_21 : decode cX12_ends 21 = .ok (.putfield 62, 3) := by decide +kernel
theorem dX12_ends_24 : decode cX12_ends 24 = .ok (.aload_n 0, 1) := by decide +kernel
theorem dX12_ends_25 : decode cX12_ends 25 = .ok (.getfield 410, 3) := by decide +kernel
theorem dX12_ends_28 : decode cX12_ends 28 = .ok (.ireturn, 1) := by decide +kernel
theorem dX12_keepsTerm_0 : decode cX12_keepsTerm 0 = .ok (.aload_n 0, 1) := by decide +kernel
theorem dX12_keepsTerm_1 : decode cX12_keepsTerm 1 = .ok (.getfield 410, 3) := by decide +kernel
theorem dX12_keepsTerm_4 : decode cX12_keepsTerm 4 = .ok (.ifCond .eq 4, 3) := by decide +kernel
theorem dX12_keepsTerm_7 : decode cX12_keepsTerm 7 = .ok (.return_, 1) := by decide +kernel
theorem dX12_keepsTerm_8 : decode cX12_keepsTerm 8 = .ok (.aload_n 0, 1) := by decide +kernel
theorem dX12_keepsTerm_9 : decode cX12_keepsTerm 9 = .ok (.getfield 59, 3) := by decide +kernel
theorem dX12_keepsTerm_12 : decode cX12_keepsTerm 12 = .ok (.aload_n 0, 1) := by decide +kernel
theorem dX12_keepsTerm_13 : decode cX12_keepsTerm 13 = .ok (.getfield 441, 3) := by decide +kernel
theorem dX12_keepsTerm_16 : decode cX12_keepsTerm 16 = .ok (.aload_n 0, 1) := by decide +kernel
theorem dX12_keepsTerm_17 : decode cX12_keepsTerm 17 = .ok (.getfield 444, 3) := by decide +kernel
theorem dX12_keepsTerm_20 : decode cX12_keepsTerm 20 = .ok (.iadd, 1) := by decide +kernel
theorem dX12_keepsTerm_21 : decode cX12_keepsTerm 21 = .ok (.iload_n 1, 1) := by decide +kernel
theorem dX12_keepsTerm_22 : decode cX12_keepsTerm 22 = .ok (.iastore, 1) := by decide +kernel
theorem dX12_keepsTerm_23 : decode cX12_keepsTerm 23 = .ok (.aload_n 0, 1) := by decide +kernel
theorem dX12_keepsTerm_24 : decode cX12_keepsTerm 24 = .ok (.getfield 413, 3) := by decide +kernel
theorem dX12_keepsTerm_27 : decode cX12_keepsTerm 27 = .ok (.ifCond .le 16, 3) := by decide +kernel
theorem dX12_keepsTerm_30 : decode cX12_keepsTerm 30 = .ok (.aload_n 0, 1) := by decide +kernel
theorem dX12_keepsTerm_31 : decode cX12_keepsTerm 31 = .ok (.dup, 1) := by decide +kernel
theorem dX12_keepsTerm_32 : decode cX12_keepsTerm 32 = .ok (.getfield 444, 3) := by decide +kernel
theorem dX12_keepsTerm_35 : decode cX12_keepsTerm 35 = .ok (.iconst 1, 1) := by decide +kernel
theorem dX12_keepsTerm_36 : decode cX12_keepsTerm 36 = .ok (.iadd, 1) := by decide +kernel
theorem dX12_keepsTerm_37 : decode cX12_keepsTerm 37 = .ok (.putfield 444, 3) := by decide +kernel
theorem dX12_keepsTerm_40 : decode cX12_keepsTerm 40 = .ok (.goto 13, 3) := by decide +kernel
theorem dX12_keepsTerm_43 : decode cX12_keepsTerm 43 = .ok (.aload_n 0, 1) := by decide +kernel
theorem dX12_keepsTerm_44 : decode cX12_keepsTerm 44 = .ok (.dup, 1) := by decide +kernel
theorem dX12_keepsTerm_45 : decode cX12_keepsTerm 45 = .ok (.getfield 441, 3) := by decide +kernel
theorem dX12_keepsTerm_48 : decode cX12_keepsTerm 48 = .ok (.iconst 1, 1) := by decide +kernel
theorem dX12_keepsTerm_49 : decode cX12_keepsTerm 49 = .ok (.iadd, 1) := by decide +kernel
theorem dX12_keepsTerm_50 : decode cX12_keepsTerm 50 = .ok (.putfield 441, 3) := by decide +kernel
theorem dX12_keepsTerm_53 : decode cX12_keepsTerm 53 = .ok (.return_, 1) := by decide +kernel
theorem dX12_isNext_0 : decode cX12_isNext 0 = .ok (.aload_n 0, 1) := by decide +kernel
theorem dX12_isNext_1 : decode cX12_isNext 1 = .ok (.bipush 59, 2) := by decide +kernel
theorem dX12_isNext_3 : decode cX12_isNext 3 = .ok (.invokevirtual 431, 3) := by decide +kernel
theorem dX12_isNext_6 : decode cX12_isNext 6 = .ok (.ifCond .ne 12, 3) := by decide +kernel
theorem dX12_isNext_9 : decode cX12_isNext 9 = .ok (.aload_n 0, 1) := by decide +kernel
theorem dX12_isNext_10 : decode cX12_isNext 10 = .ok (.bipush 44, 2) := by decide +kernel
theorem dX12_isNext_12 : decode cX12_isNext 12 = .ok (.invokevirtual 431, 3) := by decide +kernel
theorem dX12_isNext_15 : decode cX12_isNext 15 = .ok (.ifCond .eq 7, 3) := by decide +kernel
theorem dX12_isNext_18 : decode cX12_isNext 18 = .ok (.iconst 1, 1) := by decide +kernel
theorem dX12_isNext_19 : decode cX12_isNext 19 = .ok (.goto 4, 3) := by decide +kernel
theorem dX12_isNext_22 : decode cX12_isNext 22 = .ok (.iconst 0, 1) := by decide +kernel
theorem dX12_isNext_23 : decode cX12_isNext 23 = .ok (.ireturn, 1) := by decide +kernel
theorem dX12_readTold_0 : decode cX12_readTold 0 = .ok (.aload_n 0, 1) := by decide +kernel
theorem dX12_readTold_1 : decode cX12_readTold 1 = .ok (.iconst 0, 1) := by decide +kernel
theorem dX12_readTold_2 : decode cX12_readTold 2 = .ok (.putfield 441, 3) := by decide +kernel
theorem dX12_readTold_5 : decode cX12_readTold 5 = .ok (.aload_n 0, 1) := by decide +kernel
theorem dX12_readTold_6 : decode cX12_readTold 6 = .ok (.iconst 0, 1) := by decide +kernel
theorem dX12_readTold_7 : decode cX12_readTold 7 = .ok (.putfield 444, 3) := by decide +kernel
theorem dX12_readTold_10 : decode cX12_readTold 10 = .ok (.aload_n 0, 1) := by decide +kernel
theorem dX12_readTold_11 : decode cX12_readTold 11 = .ok (.bipush 91, 2) := by decide +kernel
theorem dX12_readTold_13 : decode cX12_readTold 13 = .ok (.invokevirtual 447, 3) := by decide +kernel
theorem dX12_readTold_16 : decode cX12_readTold 16 = .ok (.aload_n 0, 1) := by decide +kernel
theorem dX12_readTold_17 : decode cX12_readTold 17 = .ok (.bipush 45, 2) := by decide +kernel
theorem dX12_readTold_19 : decode cX12_readTold 19 = .ok (.invokevirtual 431, 3) := by decide +kernel
theorem dX12_readTold_22 : decode cX12_readTold 22 = .ok (.istore_n 1, 1) := by decide +kernel
theorem dX12_readTold_23 : decode cX12_readTold 23 = .ok (.iload_n 1, 1) := by decide +kernel
theorem dX12_readTold_24 : decode cX12_readTold 24 = .ok (.ifCond .eq 7, 3) := by decide +kernel
theorem dX12_readTold_27 : decode cX12_readTold 27 = .ok (.aload_n 0, 1) := by decide +kernel
theorem dX12_readTold_28 : decode cX12_readTold 28 = .ok (.invokevirtual 437, 3) := by decide +kernel
theorem dX12_readTold_31 : decode cX12_readTold 31 = .ok (.aload_n 0, 1) := by decide +kernel
theorem dX12_readTold_32 : decode cX12_readTold 32 = .ok (.iconst 0, 1) := by decide +kernel
theorem dX12_readTold_33 : decode cX12_readTold 33 = .ok (.sipush 9999, 3) := by decide +kernel
theorem dX12_readTold_36 : decode cX12_readTold 36 = .ok (.invokevirtual 450, 3) := by decide +kernel
theorem dX12_readTold_39 : decode cX12_readTold 39 = .ok (.istore_n 2, 1) := by decide +kernel
theorem dX12_readTold_40 : decode cX12_readTold 40 = .ok (.aload_n 0, 1) := by decide +kernel
theorem dX12_readTold_41 : decode cX12_readTold 41 = .ok (.iload_n 1, 1) := by decide +kernel
theorem dX12_readTold_42 : decode cX12_readTold 42 = .ok (.ifCond .eq 8, 3) := by decide +kernel
theorem dX12_readTold_45 : decode cX12_readTold 45 = .ok (.iload_n 2, 1) := by decide +kernel
theorem dX12_readTold_46 : decode cX12_readTold 46 = .ok (.ineg, 1) := by decide +kernel
theorem dX12_readTold_47 : decode cX12_readTold 47 = .ok (.goto 4, 3) := by decide +kernel
theorem dX12_readTold_50 : decode cX12_readTold 50 = .ok (.iload_n 2, 1) := by decide +kernel
theorem dX12_readTold_51 : decode cX12_readTold 51 = .ok (.invokevirtual 453, 3) := by decide +kernel
theorem dX12_readTold_54 : decode cX12_readTold 54 = .ok (.aload_n 0, 1) := by decide +kernel
theorem dX12_readTold_55 : decode cX12_readTold 55 = .ok (.invokevirtual 456, 3) := by decide +kernel
theorem dX12_readTold_58 : decode cX12_readTold 58 = .ok (.ifCond .eq 45, 3) := by decide +kernel
theorem dX12_readTold_61 : decode cX12_readTold 61 = .ok (.aload_n 0, 1) := by decide +kernel
theorem dX12_readTold_62 : decode cX12_readTold 62 = .ok (.getfield 413, 3) := by decide +kernel
theorem dX12_readTold_65 : decode cX12_readTold 65 = .ok (.ifCond .ne 38, 3) := by decide +kernel
theorem dX12_readTold_68 : decode cX12_readTold 68 = .ok (.aload_n 0, 1) := by decide +kernel
theorem dX12_readTold_69 : decode cX12_readTold 69 = .ok (.invokevirtual 437, 3) := by decide +kernel
theorem dX12_readTold_72 : decode cX12_readTold 72 = .ok (.aload_n 0, 1) := by decide +kernel
theorem dX12_readTold_73 : decode cX12_readTold 73 = .ok (.bipush 40, 2) := by decide +kernel
theorem dX12_readTold_75 : decode cX12_readTold 75 = .ok (.invokevirtual 431, 3) := by decide +kernel
theorem dX12_readTold_78 : decode cX12_readTold 78 = .ok (.ifCond .eq 10, 3) := by decide +kernel
theorem dX12_readTold_81 : decode cX12_readTold 81 = .ok (.aload_n 0, 1) := by decide +kernel
theorem dX12_readTold_82 : decode cX12_readTold 82 = .ok (.invokevirtual 459, 3) := by decide +kernel
theorem dX12_readTold_85 : decode cX12_readTold 85 = .ok (.goto (-31), 3) := by decide +kernel
theorem dX12_readTold_88 : decode cX12_readTold 88 = .ok (.aload_n 0, 1) := by decide +kernel
theorem dX12_readTold_89 : decode cX12_readTold 89 = .ok (.aload_n 0, 1) := by decide +kernel
theorem dX12_readTold_90 : decode cX12_readTold 90 = .ok (.iconst 1, 1) := by decide +kernel
theorem dX12_readTold_91 : decode cX12_readTold 91 = .ok (.sipush 9999, 3) := by decide +kernel
theorem dX12_readTold_94 : decode cX12_readTold 94 = .ok (.invokevirtual 450, 3) := by decide +kernel
theorem dX12_readTold_97 : decode cX12_readTold 97 = .ok (.invokevirtual 453, 3) := by decide +kernel
theorem dX12_readTold_100 : decode cX12_readTold 100 = .ok (.goto (-46), 3) := by decide +kernel
theorem dX12_readTold_103 : decode cX12_readTold 103 = .ok (.aload_n 0, 1) := by decide +kernel
theorem dX12_readTold_104 : decode cX12_readTold 104 = .ok (.bipush 93, 2) := by decide +kernel
theorem dX12_readTold_106 : decode cX12_readTold 106 = .ok (.invokevirtual 447, 3) := by decide +kernel
theorem dX12_readTold_109 : decode cX12_readTold 109 = .ok (.aload_n 0, 1) := by decide +kernel
theorem dX12_readTold_110 : decode cX12_readTold 110 = .ok (.getfield 410, 3) := by decide +kernel
theorem dX12_readTold_113 : decode cX12_readTold 113 = .ok (.ifCond .ne 15, 3) := by decide +kernel
theorem dX12_readTold_116 : decode cX12_readTold 116 = .ok (.aload_n 0, 1) := by decide +kernel
theorem dX12_readTold_117 : decode cX12_readTold 117 = .ok (.getfield 398, 3) := by decide +kernel
theorem dX12_readTold_120 : decode cX12_readTold 120 = .ok (.ifCond .eq 8, 3) := by decide +kernel
theorem dX12_readTold_123 : decode cX12_readTold 123 = .ok (.aload_n 0, 1) := by decide +kernel
theorem dX12_readTold_124 : decode cX12_readTold 124 = .ok (.iconst 1, 1) := by decide +kernel
theorem dX12_readTold_125 : decode cX12_readTold 125 = .ok (.invokevirtual 434, 3) := by decide +kernel
theorem dX12_readTold_128 : decode cX12_readTold 128 = .ok (.return_, 1) := by decide +kernel
theorem dX12_readAgainOnes_0 : decode cX12_readAgainOnes 0 = .ok (.aload_n 0, 1) := by decide +kernel
theorem dX12_readAgainOnes_1 : decode cX12_readAgainOnes 1 = .ok (.invokevirtual 437, 3) := by decide +kernel
theorem dX12_readAgainOnes_4 : decode cX12_readAgainOnes 4 = .ok (.aload_n 0, 1) := by decide +kernel
theorem dX12_readAgainOnes_5 : decode cX12_readAgainOnes 5 = .ok (.iconst 1, 1) := by decide +kernel
theorem dX12_readAgainOnes_6 : decode cX12_readAgainOnes 6 = .ok (.putfield 413, 3) := by decide +kernel
theorem dX12_readAgainOnes_9 : decode cX12_readAgainOnes 9 = .ok (.aload_n 0, 1) := by decide +kernel
theorem dX12_readAgainOnes_10 : decode cX12_readAgainOnes 10 = .ok (.aload_n 0, 1) := by decide +kernel
theorem dX12_readAgainOnes_11 : decode cX12_readAgainOnes 11 = .ok (.iconst 1, 1) := by decide +kernel
theorem dX12_readAgainOnes_12 : decode cX12_readAgainOnes 12 = .ok (.sipush 9999, 3) := by decide +kernel
theorem dX12_readAgainOnes_15 : decode cX12_readAgainOnes 15 = .ok (.invokevirtual 450, 3) := by decide +kernel
theorem dX12_readAgainOnes_18 : decode cX12_readAgainOnes 18 = .ok (.invokevirtual 453, 3) := by decide +kernel
theorem dX12_readAgainOnes_21 : decode cX12_readAgainOnes 21 = .ok (.aload_n 0, 1) := by decide +kernel
theorem dX12_readAgainOnes_22 : decode cX12_readAgainOnes 22 = .ok (.invokevirtual 456, 3) := by decide +kernel
theorem dX12_readAgainOnes_25 : decode cX12_readAgainOnes 25 = .ok (.ifCond .eq 22, 3) := by decide +kernel
theorem dX12_readAgainOnes_28 : decode cX12_readAgainOnes 28 = .ok (.aload_n 0, 1) := by decide +kernel
theorem dX12_readAgainOnes_29 : decode cX12_readAgainOnes 29 = .ok (.invokevirtual 437, 3) := by decide +kernel
theorem dX12_readAgainOnes_32 : decode cX12_readAgainOnes 32 = .ok (.aload_n 0, 1) := by decide +kernel
theorem dX12_readAgainOnes_33 : decode cX12_readAgainOnes 33 = .ok (.aload_n 0, 1) := by decide +kernel
theorem dX12_readAgainOnes_34 : decode cX12_readAgainOnes 34 = .ok (.iconst 1, 1) := by decide +kernel
theorem dX12_readAgainOnes_35 : decode cX12_readAgainOnes 35 = .ok (.sipush 9999, 3) := by decide +kernel
theorem dX12_readAgainOnes_38 : decode cX12_readAgainOnes 38 = .ok (.invokevirtual 450, 3) := by decide +kernel
theorem dX12_readAgainOnes_41 : decode cX12_readAgainOnes 41 = .ok (.invokevirtual 453, 3) := by decide +kernel
theorem dX12_readAgainOnes_44 : decode cX12_readAgainOnes 44 = .ok (.goto (-23), 3) := by decide +kernel
theorem dX12_readAgainOnes_47 : decode cX12_readAgainOnes 47 = .ok (.aload_n 0, 1) := by decide +kernel
theorem dX12_readAgainOnes_48 : decode cX12_readAgainOnes 48 = .ok (.bipush 41, 2) := by decide +kernel
theorem dX12_readAgainOnes_50 : decode cX12_readAgainOnes 50 = .ok (.invokevirtual 447, 3) := by decide +kernel
theorem dX12_readAgainOnes_53 : decode cX12_readAgainOnes 53 = .ok (.return_, 1) := by decide +kernel
theorem dX12_isRight_0 : decode cX12_isRight 0 = .ok (.iload_n 1, 1) := by decide +kernel
theorem dX12_isRight_1 : decode cX12_isRight 1 = .ok (.invokestatic 264, 3) := by decide +kernel
theorem dX12_isRight_4 : decode cX12_isRight 4 = .ok (.ifCond .eq 21, 3) := by decide +kernel
theorem dX12_isRight_7 : decode cX12_isRight 7 = .ok (.iload_n 2, 1) := by decide +kernel
theorem dX12_isRight_8 : decode cX12_isRight 8 = .ok (.i2l, 1) := by decide +kernel
theorem dX12_isRight_9 : decode cX12_isRight 9 = .ok (.lconst 0, 1) := by decide +kernel
theorem dX12_isRight_10 : decode cX12_isRight 10 = .ok (.aload_n 0, 1) := by decide +kernel
theorem dX12_isRight_11 : decode cX12_isRight 11 = .ok (.getfield 289, 3) := by decide +kernel
theorem dX12_isRight_14 : decode cX12_isRight 14 = .ok (.i2l, 1) := by decide +kernel
theorem dX12_isRight_15 : decode cX12_isRight 15 = .ok (.invokestatic 78, 3) := by decide +kernel
theorem dX12_isRight_18 : decode cX12_isRight 18 = .ok (.ifCond .eq 7, 3) := by decide +kernel
theorem dX12_isRight_21 : decode cX12_isRight 21 = .ok (.iconst 1, 1) := by decide +kernel
theorem dX12_isRight_22 : decode cX12_isRight 22 = .ok (.goto 4, 3) := by decide +kernel
theorem dX12_isRight_25 : decode cX12_isRight 25 = .ok (.iconst 0, 1) := by decide +kernel
theorem dX12_isRight_26 : decode cX12_isRight 26 = .ok (.ireturn, 1) := by decide +kernel
theorem dX12_told_0 : decode cX12_told 0 = .ok (.aload_n 0, 1) := by decide +kernel
theorem dX12_told_1 : decode cX12_told 1 = .ok (.iconst 0, 1) := by decide +kernel
theorem dX12_told_2 : decode cX12_told 2 = .ok (.putfield 73, 3) := by decide +kernel
theorem dX12_told_5 : decode cX12_told 5 = .ok (.aload_n 0, 1) := by decide +kernel
theorem dX12_told_6 : decode cX12_told 6 = .ok (.iload_n 1, 1) := by decide +kernel
theorem dX12_told_7 : decode cX12_told 7 = .ok (.iload_n 2, 1) := by decide +kernel
theorem dX12_told_8 : decode cX12_told 8 = .ok (.invokevirtual 462, 3) := by decide +kernel
theorem dX12_told_11 : decode cX12_told 11 = .ok (.ifCond .ne 9, 3) := by decide +kernel
theorem dX12_told_14 : decode cX12_told 14 = .ok (.aload_n 0, 1) := by decide +kernel
theorem dX12_told_15 : decode cX12_told 15 = .ok (.iconst 1, 1) := by decide +kernel
theorem dX12_told_16 : decode cX12_told 16 = .ok (.invokevirtual 299, 3) := by decide +kernel
theorem dX12_told_19 : decode cX12_told 19 = .ok (.ireturn, 1) := by decide +kernel
theorem dX12_told_20 : decode cX12_told 20 = .ok (.aload_n 0, 1) := by decide +kernel
theorem dX12_told_21 : decode cX12_told 21 = .ok (.iload_n 2, 1) := by decide +kernel
theorem dX12_told_22 : decode cX12_told 22 = .ok (.invokevirtual 465, 3) := by decide +kernel
theorem dX12_told_25 : decode cX12_told 25 = .ok (.aload_n 0, 1) := by decide +kernel
theorem dX12_told_26 : decode cX12_told 26 = .ok (.invokevirtual 468, 3) := by decide +kernel
theorem dX12_told_29 : decode cX12_told 29 = .ok (.aload_n 0, 1) := by decide +kernel
theorem dX12_told_30 : decode cX12_told 30 = .ok (.invokevirtual 471, 3) := by decide +kernel
theorem dX12_told_33 : decode cX12_told 33 = .ok (.istore_n 3, 1) := by decide +kernel
theorem dX12_told_34 : decode cX12_told 34 = .ok (.iload_n 3, 1) := by decide +kernel
theorem dX12_told_35 : decode cX12_told 35 = .ok (.ifCond .eq 8, 3) := by decide +kernel
theorem dX12_told_38 : decode cX12_told 38 = .ok (.bipush (-10), 2) := by decide +kernel
theorem dX12_told_40 : decode cX12_told 40 = .ok (.iload_n 3, 1) := by decide +kernel
theorem dX12_told_41 : decode cX12_told 41 = .ok (.isub, 1) := by decide +kernel
theorem dX12_told_42 : decode cX12_told 42 = .ok (.ireturn, 1) := by decide +kernel
theorem dX12_told_43 : decode cX12_told 43 = .ok (.aload_n 0, 1) := by decide +kernel
theorem dX12_told_44 : decode cX12_told 44 = .ok (.iload_n 1, 1) := by decide +kernel
theorem dX12_told_45 : decode cX12_told 45 = .ok (.iconst 2, 1) := by decide +kernel
theorem dX12_told_46 : decode cX12_told 46 = .ok (.iconst 0, 1) := by decide +kernel
theorem dX12_told_47 : decode cX12_told 47 = .ok (.iconst 0, 1) := by decide +kernel
theorem dX12_told_48 : decode cX12_told 48 = .ok (.iconst 0, 1) := by decide +kernel
theorem dX12_told_49 : decode cX12_told 49 = .ok (.iconst 0, 1) := by decide +kernel
theorem dX12_told_50 : decode cX12_told 50 = .ok (.invokevirtual 271, 3) := by decide +kernel
theorem dX12_told_53 : decode cX12_told 53 = .ok (.aload_n 0, 1) := by decide +kernel
theorem dX12_told_54 : decode cX12_told 54 = .ok (.iload_n 1, 1) := by decide +kernel
theorem dX12_told_55 : decode cX12_told 55 = .ok (.bipush 7, 2) := by decide +kernel
theorem dX12_told_57 : decode cX12_told 57 = .ok (.aload_n 0, 1) := by decide +kernel
theorem dX12_told_58 : decode cX12_told 58 = .ok (.getfield 441, 3) := by decide +kernel
theorem dX12_told_61 : decode cX12_told 61 = .ok (.invokevirtual 66, 3) := by decide +kernel
theorem dX12_told_64 : decode cX12_told 64 = .ok (.aload_n 0, 1) := by decide +kernel
theorem dX12_told_65 : decode cX12_told 65 = .ok (.iload_n 1, 1) := by decide +kernel
theorem dX12_told_66 : decode cX12_told 66 = .ok (.bipush 8, 2) := by decide +kernel
theorem dX12_told_68 : decode cX12_told 68 = .ok (.aload_n 0, 1) := by decide +kernel
theorem dX12_told_69 : decode cX12_told 69 = .ok (.getfield 444, 3) := by decide +kernel
theorem dX12_told_72 : decode cX12_told 72 = .ok (.invokevirtual 66, 3) := by decide +kernel
theorem dX12_told_75 : decode cX12_told 75 = .ok (.iconst 0, 1) := by decide +kernel
theorem dX12_told_76 : decode cX12_told 76 = .ok (.istore 4, 2) := by decide +kernel
theorem dX12_told_78 : decode cX12_told 78 = .ok (.iload 4, 2) := by decide +kernel
theorem dX12_told_80 : decode cX12_told 80 = .ok (.aload_n 0, 1) := by decide +kernel
theorem dX12_told_81 : decode cX12_told 81 = .ok (.getfield 441, 3) := by decide +kernel
theorem dX12_told_84 : decode cX12_told 84 = .ok (.aload_n 0, 1) := by decide +kernel
theorem dX12_told_85 : decode cX12_told 85 = .ok (.getfield 444, 3) := by decide +kernel
theorem dX12_told_88 : decode cX12_told 88 = .ok (.iadd, 1) := by decide +kernel
theorem dX12_told_89 : decode cX12_told 89 = .ok (.if_icmp .ge 26, 3) := by decide +kernel
theorem dX12_told_92 : decode cX12_told 92 = .ok (.aload_n 0, 1) := by decide +kernel
theorem dX12_told_93 : decode cX12_told 93 = .ok (.iload_n 1, 1) := by decide +kernel
theorem dX12_told_94 : decode cX12_told 94 = .ok (.bipush 9, 2) := by decide +kernel
theorem dX12_told_96 : decode cX12_told 96 = .ok (.iload 4, 2) := by decide +kernel
theorem dX12_told_98 : decode cX12_told 98 = .ok (.iadd, 1) := by decide +kernel
theorem dX12_told_99 : decode cX12_told 99 = .ok (.aload_n 0, 1) := by decide +kernel
theorem dX12_told_100 : decode cX12_told 100 = .ok (.getfield 59, 3) := by decide +kernel
theorem dX12_told_103 : decode cX12_told 103 = .ok (.iload 4, 2) := by decide +kernel
theorem dX12_told_105 : decode cX12_told 105 = .ok (.iaload, 1) := by decide +kernel
theorem dX12_told_106 : decode cX12_told 106 = .ok (.invokevirtual 66, 3) := by decide +kernel
theorem dX12_told_109 : decode cX12_told 109 = .ok (.iinc 4 1, 3) := by decide +kernel
theorem dX12_told_112 : decode cX12_told 112 = .ok (.goto (-34), 3) := by decide +kernel
theorem dX12_told_115 : decode cX12_told 115 = .ok (.aload_n 0, 1) := by decide +kernel
theorem dX12_told_116 : decode cX12_told 116 = .ok (.invokevirtual 70, 3) := by decide +kernel
theorem dX12_told_119 : decode cX12_told 119 = .ok (.aload_n 0, 1) := by decide +kernel
theorem dX12_told_120 : decode cX12_told 120 = .ok (.getfield 441, 3) := by decide +kernel
theorem dX12_told_123 : decode cX12_told 123 = .ok (.aload_n 0, 1) := by decide +kernel
theorem dX12_told_124 : decode cX12_told 124 = .ok (.getfield 444, 3) := by decide +kernel
theorem dX12_told_127 : decode cX12_told 127 = .ok (.iadd, 1) := by decide +kernel
theorem dX12_told_128 : decode cX12_told 128 = .ok (.ireturn, 1) := by decide +kernel
theorem dX12_valueHere_0 : decode cX12_valueHere 0 = .ok (.aload_n 0, 1) := by decide +kernel
theorem dX12_valueHere_1 : decode cX12_valueHere 1 = .ok (.getfield 474, 3) := by decide +kernel
theorem dX12_valueHere_4 : decode cX12_valueHere 4 = .ok (.iconst (-1), 1) := by decide +kernel
theorem dX12_valueHere_5 : decode cX12_valueHere 5 = .ok (.if_icmp .eq 7, 3) := by decide +kernel
theorem dX12_valueHere_8 : decode cX12_valueHere 8 = .ok (.iconst 1, 1) := by decide +kernel
theorem dX12_valueHere_9 : decode cX12_valueHere 9 = .ok (.goto 4, 3) := by decide +kernel
theorem dX12_valueHere_12 : decode cX12_valueHere 12 = .ok (.iconst 0, 1) := by decide +kernel
theorem dX12_valueHere_13 : decode cX12_valueHere 13 = .ok (.istore_n 1, 1) := by decide +kernel
theorem dX12_valueHere_14 : decode cX12_valueHere 14 = .ok (.aload_n 0, 1) := by decide +kernel
theorem dX12_valueHere_15 : decode cX12_valueHere 15 = .ok (.ldc_w 477, 3) := by decide +kernel
theorem dX12_valueHere_18 : decode cX12_valueHere 18 = .ok (.invokevirtual 479, 3) := by decide +kernel
theorem dX12_valueHere_21 : decode cX12_valueHere 21 = .ok (.ifCond .eq 9, 3) := by decide +kernel
theorem dX12_valueHere_24 : decode cX12_valueHere 24 = .ok (.aload_n 0, 1) := by decide +kernel
theorem dX12_valueHere_25 : decode cX12_valueHere 25 = .ok (.getfield 474, 3) := by decide +kernel
theorem dX12_valueHere_28 : decode cX12_valueHere 28 = .ok (.i2l, 1) := by decide +kernel
theorem dX12_valueHere_29 : decode cX12_valueHere 29 = .ok (.lreturn, 1) := by decide +kernel
theorem dX12_valueHere_30 : decode cX12_valueHere 30 = .ok (.aload_n 0, 1) := by decide +kernel
theorem dX12_valueHere_31 : decode cX12_valueHere 31 = .ok (.ldc_w 483, 3) := by decide +kernel
theorem dX12_valueHere_34 : decode cX12_valueHere 34 = .ok (.invokevirtual 479, 3) := by decide +kernel
theorem dX12_valueHere_37 : decode cX12_valueHere 37 = .ok (.ifCond .eq 25, 3) := by decide +kernel
theorem dX12_valueHere_40 : decode cX12_valueHere 40 = .ok (.iload_n 1, 1) := by decide +kernel
theorem dX12_valueHere_41 : decode cX12_valueHere 41 = .ok (.ifCond .eq 19, 3) := by decide +kernel
theorem dX12_valueHere_44 : decode cX12_valueHere 44 = .ok (.aload_n 0, 1) := by decide +kernel
theorem dX12_valueHere_45 : decode cX12_valueHere 45 = .ok (.aload_n 0, 1) := by decide +kernel
theorem dX12_valueHere_46 : decode cX12_valueHere 46 = .ok (.getfield 484, 3) := by decide +kernel
theorem dX12_valueHere_49 : decode cX12_valueHere 49 = .ok (.aload_n 0, 1) := by decide +kernel
theorem dX12_valueHere_50 : decode cX12_valueHere 50 = .ok (.getfield 474, 3) := by decide +kernel
theorem dX12_valueHere_53 : decode cX12_valueHere 53 = .ok (.invokevirtual 219, 3) := by decide +kernel
theorem dX12_valueHere_56 : decode cX12_valueHere 56 = .ok (.i2l, 1) := by decide +kernel
theorem dX12_valueHere_57 : decode cX12_valueHere 57 = .ok (.goto 4, 3) := by decide +kernel
theorem dX12_valueHere_60 : decode cX12_valueHere 60 = .ok (.lconst 0, 1) := by decide +kernel
theorem dX12_valueHere_61 : decode cX12_valueHere 61 = .ok (.lreturn, 1) := by decide +kernel
theorem dX12_valueHere_62 : decode cX12_valueHere 62 = .ok (.aload_n 0, 1) := by decide +kernel
theorem dX12_valueHere_63 : decode cX12_valueHere 63 = .ok (.ldc_w 487, 3) := by decide +kernel
theorem dX12_valueHere_66 : decode cX12_valueHere 66 = .ok (.invokevirtual 479, 3) := by decide +kernel
theorem dX12_valueHere_69 : decode cX12_valueHere 69 = .ok (.ifCond .eq 30, 3) := by decide +kernel
theorem dX12_valueHere_72 : decode cX12_valueHere 72 = .ok (.aload_n 0, 1) := by decide +kernel
theorem dX12_valueHere_73 : decode cX12_valueHere 73 = .ok (.getfield 474, 3) := by decide +kernel
theorem dX12_valueHere_76 : decode cX12_valueHere 76 = .ok (.ifCond .le 21, 3) := by decide +kernel
theorem dX12_valueHere_79 : decode cX12_valueHere 79 = .ok (.aload_n 0, 1) := by decide +kernel
theorem dX12_valueHere_80 : decode cX12_valueHere 80 = .ok (.aload_n 0, 1) := by decide +kernel
theorem dX12_valueHere_81 : decode cX12_valueHere 81 = .ok (.getfield 484, 3) := by decide +kernel
theorem dX12_valueHere_84 : decode cX12_valueHere 84 = .ok (.aload_n 0, 1) := by decide +kernel
theorem dX12_valueHere_85 : decode cX12_valueHere 85 = .ok (.getfield 474, 3) := by decide +kernel
theorem dX12_valueHere_88 : decode cX12_valueHere 88 = .ok (.iconst 1, 1) := by decide +kernel
theorem dX12_valueHere_89 : decode cX12_valueHere 89 = .ok (.isub, 1) := by decide +kernel
theorem dX12_valueHere_90 : decode cX12_valueHere 90 = .ok (.invokevirtual 219, 3) := by decide +kernel
theorem dX12_valueHere_93 : decode cX12_valueHere 93 = .ok (.i2l, 1) := by decide +kernel
theorem dX12_valueHere_94 : decode cX12_valueHere 94 = .ok (.goto 4, 3) := by decide +kernel
theorem dX12_valueHere_97 : decode cX12_valueHere 97 = .ok (.lconst 0, 1) := by decide +kernel
theorem dX12_valueHere_98 : decode cX12_valueHere 98 = .ok (.lreturn, 1) := by decide +kernel
theorem dX12_valueHere_99 : decode cX12_valueHere 99 = .ok (.aload_n 0, 1) := by decide +kernel
theorem dX12_valueHere_100 : decode cX12_valueHere 100 = .ok (.ldc_w 489, 3) := by decide +kernel
theorem dX12_valueHere_103 : decode cX12_valueHere 103 = .ok (.invokevirtual 479, 3) := by decide +kernel
theorem dX12_valueHere_106 : decode cX12_valueHere 106 = .ok (.ifCond .eq 24, 3) := by decide +kernel
theorem dX12_valueHere_109 : decode cX12_valueHere 109 = .ok (.iload_n 1, 1) := by decide +kernel
theorem dX12_valueHere_110 : decode cX12_valueHere 110 = .ok (.ifCond .eq 18, 3) := by decide +kernel
theorem dX12_valueHere_113 : decode cX12_valueHere 113 = .ok (.aload_n 0, 1) := by decide +kernel
theorem dX12_valueHere_114 : decode cX12_valueHere 114 = .ok (.aload_n 0, 1) := by decide +kernel
theorem dX12_valueHere_115 : decode cX12_valueHere 115 = .ok (.getfield 484, 3) := by decide +kernel
theorem dX12_valueHere_118 : decode cX12_valueHere 118 = .ok (.aload_n 0, 1) := by decide +kernel
theorem dX12_valueHere_119 : decode cX12_valueHere 119 = .ok (.getfield 474, 3) := by decide +kernel
theorem dX12_valueHere_122 : decode cX12_valueHere 122 = .ok (.invokevirtual 314, 3) := by decide +kernel
theorem dX12_valueHere_125 : decode cX12_valueHere 125 = .ok (.goto 4, 3) := by decide +kernel
theorem dX12_valueHere_128 : decode cX12_valueHere 128 = .ok (.lconst 0, 1) := by decide +kernel
theorem dX12_valueHere_129 : decode cX12_valueHere 129 = .ok (.lreturn, 1) := by decide +kernel
theorem dX12_valueHere_130 : decode cX12_valueHere 130 = .ok (.aload_n 0, 1) := by decide +kernel
theorem dX12_valueHere_131 : decode cX12_valueHere 131 = .ok (.ldc_w 491, 3) := by decide +kernel
theorem dX12_valueHere_134 : decode cX12_valueHere 134 = .ok (.invokevirtual 479, 3) := by decide +kernel
theorem dX12_valueHere_137 : decode cX12_valueHere 137 = .ok (.ifCond .ne 8, 3) := by decide +kernel
theorem dX12_valueHere_140 : decode cX12_valueHere 140 = .ok (.aload_n 0, 1) := by decide +kernel
theorem dX12_valueHere_141 : decode cX12_valueHere 141 = .ok (.iconst 1, 1) := by decide +kernel
theorem dX12_valueHere_142 : decode cX12_valueHere 142 = .ok (.invokevirtual 434, 3) := by decide +kernel
theorem dX12_valueHere_145 : decode cX12_valueHere 145 = .ok (.iload_n 1, 1) := by decide +kernel
theorem dX12_valueHere_146 : decode cX12_valueHere 146 = .ok (.ifCond .eq 23, 3) := by decide +kernel
theorem dX12_valueHere_149 : decode cX12_valueHere 149 = .ok (.aload_n 0, 1) := by decide +kernel
theorem dX12_valueHere_150 : decode cX12_valueHere 150 = .ok (.getfield 19, 3) := by decide +kernel
theorem dX12_valueHere_153 : decode cX12_valueHere 153 = .ok (.aload_n 0, 1) := by decide +kernel
theorem dX12_valueHere_154 : decode cX12_valueHere 154 = .ok (.getfield 484, 3) := by decide +kernel
theorem dX12_valueHere_157 : decode cX12_valueHere 157 = .ok (.iaload, 1) := by decide +kernel
theorem dX12_valueHere_158 : decode cX12_valueHere 158 = .ok (.iconst 1, 1) := by decide +kernel
theorem dX12_valueHere_159 : decode cX12_valueHere 159 = .ok (.isub, 1) := by decide +kernel
theorem dX12_valueHere_160 : decode cX12_valueHere 160 = .ok (.aload_n 0, 1) := by decide +kernel
theorem dX12_valueHere_161 : decode cX12_valueHere 161 = .ok (.getfield 474, 3) := by decide +kernel
theorem dX12_valueHere_164 : decode cX12_valueHere 164 = .ok (.isub, 1) := by decide +kernel
theorem dX12_valueHere_165 : decode cX12_valueHere 165 = .ok (.i2l, 1) := by decide +kernel
theorem dX12_valueHere_166 : decode cX12_valueHere 166 = .ok (.goto 4, 3) := by decide +kernel
theorem dX12_valueHere_169 : decode cX12_valueHere 169 = .ok (.lconst 0, 1) := by decide +kernel
theorem dX12_valueHere_170 : decode cX12_valueHere 170 = .ok (.lreturn, 1) := by decide +kernel
theorem dX12_readValue_0 : decode cX12_readValue 0 = .ok (.aload_n 0, 1) := by decide +kernel
theorem dX12_readValue_1 : decode cX12_readValue 1 = .ok (.getfield 410, 3) := by decide +kernel
theorem dX12_readValue_4 : decode cX12_readValue 4 = .ok (.ifCond .ne 11, 3) := by decide +kernel
theorem dX12_readValue_7 : decode cX12_readValue 7 = .ok (.aload_n 0, 1) := by decide +kernel
theorem dX12_readValue_8 : decode cX12_readValue 8 = .ok (.getfield 398, 3) := by decide +kernel
theorem dX12_readValue_11 : decode cX12_readValue 11 = .ok (.iconst 2, 1) := by decide +kernel
theorem dX12_readValue_12 : decode cX12_readValue 12 = .ok (.if_icmp .ne 13, 3) := by decide +kernel
theorem dX12_readValue_15 : decode cX12_readValue 15 = .ok (.aload_n 0, 1) := by decide +kernel
theorem dX12_readValue_16 : decode cX12_readValue 16 = .ok (.iconst 0, 1) := by decide +kernel
theorem dX12_readValue_17 : decode cX12_readValue 17 = .ok (.sipush 9999, 3) := by decide +kernel
theorem dX12_readValue_20 : decode cX12_readValue 20 = .ok (.invokevirtual 450, 3) := by decide +kernel
theorem dX12_readValue_23 : decode cX12_readValue 23 = .ok (.i2l, 1) := by decide +kernel
theorem dX12_readValue_24 : decode cX12_readValue 24 = .ok (.lreturn, 1) := by decide +kernel
theorem dX12_readValue_25 : decode cX12_readValue 25 = .ok (.aload_n 0, 1) := by decide +kernel
theorem dX12_readValue_26 : decode cX12_readValue 26 = .ok (.invokevirtual 493, 3) := by decide +kernel
theorem dX12_readValue_29 : decode cX12_readValue 29 = .ok (.lstore_n 1, 1) := by decide +kernel
theorem dX12_readValue_30 : decode cX12_readValue 30 = .ok (.aload_n 0, 1) := by decide +kernel
theorem dX12_readValue_31 : decode cX12_readValue 31 = .ok (.invokevirtual 437, 3) := by decide +kernel
theorem dX12_readValue_34 : decode cX12_readValue 34 = .ok (.lload_n 1, 1) := by decide +kernel
theorem dX12_readValue_35 : decode cX12_readValue 35 = .ok (.lreturn, 1) := by decide +kernel
theorem dX12_goesIn_0 : decode cX12_goesIn 0 = .ok (.aload_n 0, 1) := by decide +kernel
theorem dX12_goesIn_1 : decode cX12_goesIn 1 = .ok (.getfield 410, 3) := by decide +kernel
theorem dX12_goesIn_4 : decode cX12_goesIn 4 = .ok (.ifCond .ne 17, 3) := by decide +kernel
theorem dX12_goesIn_7 : decode cX12_goesIn 7 = .ok (.aload_n 0, 1) := by decide +kernel
theorem dX12_goesIn_8 : decode cX12_goesIn 8 = .ok (.getfield 413, 3) := by decide +kernel
theorem dX12_goesIn_11 : decode cX12_goesIn 11 = .ok (.bipush 6, 2) := by decide +kernel
theorem dX12_goesIn_13 : decode cX12_goesIn 13 = .ok (.if_icmp .ne 8, 3) := by decide +kernel
theorem dX12_goesIn_16 : decode cX12_goesIn 16 = .ok (.aload_n 0, 1) := by decide +kernel
theorem dX12_goesIn_17 : decode cX12_goesIn 17 = .ok (.iconst 3, 1) := by decide +kernel
theorem dX12_goesIn_18 : decode cX12_goesIn 18 = .ok (.invokevirtual 434, 3) := by decide +kernel
theorem dX12_goesIn_21 : decode cX12_goesIn 21 = .ok (.aload_n 0, 1) := by decide +kernel
theorem dX12_goesIn_22 : decode cX12_goesIn 22 = .ok (.dup, 1) := by decide +kernel
theorem dX12_goesIn_23 : decode cX12_goesIn 23 = .ok (.getfield 413, 3) := by decide +kernel
theorem dX12_goesIn_26 : decode cX12_goesIn 26 = .ok (.iconst 1, 1) := by decide +kernel
theorem dX12_goesIn_27 : decode cX12_goesIn 27 = .ok (.iadd, 1) := by decide +kernel
theorem dX12_goesIn_28 : decode cX12_goesIn 28 = .ok (.putfield 413, 3) := by decide +kernel
theorem dX12_goesIn_31 : decode cX12_goesIn 31 = .ok (.aload_n 0, 1) := by decide +kernel
theorem dX12_goesIn_32 : decode cX12_goesIn 32 = .ok (.invokevirtual 437, 3) := by decide +kernel
theorem dX12_goesIn_35 : decode cX12_goesIn 35 = .ok (.return_, 1) := by decide +kernel
theorem dX12_readFact_0 : decode cX12_readFact 0 = .ok (.aload_n 0, 1) := by decide +kernel
theorem dX12_readFact_1 : decode cX12_readFact 1 = .ok (.ldc_w 497, 3) := by decide +kernel
theorem dX12_readFact_4 : decode cX12_readFact 4 = .ok (.invokevirtual 479, 3) := by decide +kernel
theorem dX12_readFact_7 : decode cX12_readFact 7 = .ok (.ifCond .eq 32, 3) := by decide +kernel
theorem dX12_readFact_10 : decode cX12_readFact 10 = .ok (.aload_n 0, 1) := by decide +kernel
theorem dX12_readFact_11 : decode cX12_readFact 11 = .ok (.invokevirtual 499, 3) := by decide +kernel
theorem dX12_readFact_14 : decode cX12_readFact 14 = .ok (.aload_n 0, 1) := by decide +kernel
theorem dX12_readFact_15 : decode cX12_readFact 15 = .ok (.invokevirtual 502, 3) := by decide +kernel
theorem dX12_readFact_18 : decode cX12_readFact 18 = .ok (.istore_n 1, 1) := by decide +kernel
theorem dX12_readFact_19 : decode cX12_readFact 19 = .ok (.aload_n 0, 1) := by decide +kernel
theorem dX12_readFact_20 : decode cX12_readFact 20 = .ok (.dup, 1) := by decide +kernel
theorem dX12_readFact_21 : decode cX12_readFact 21 = .ok (.getfield 413, 3) := by decide +kernel
theorem dX12_readFact_24 : decode cX12_readFact 24 = .ok (.iconst 1, 1) := by decide +kernel
theorem dX12_readFact_25 : decode cX12_readFact 25 = .ok (.isub, 1) := by decide +kernel
theorem dX12_readFact_26 : decode cX12_readFact 26 = .ok (.putfield 413, 3) := by decide +kernel
theorem dX12_readFact_29 : decode cX12_readFact 29 = .ok (.iload_n 1, 1) := by decide +kernel
theorem dX12_readFact_30 : decode cX12_readFact 30 = .ok (.ifCond .ne 7, 3) := by decide +kernel
theorem dX12_readFact_33 : decode cX12_readFact 33 = .ok (.iconst 1, 1) := by decide +kernel
theorem dX12_readFact_34 : decode cX12_readFact 34 = .ok (.goto 4, 3) := by decide +kernel
theorem dX12_readFact_37 : decode cX12_readFact 37 = .ok (.iconst 0, 1) := by decide +kernel
theorem dX12_readFact_38 : decode cX12_readFact 38 = .ok (.ireturn, 1) := by decide +kernel
theorem dX12_readFact_39 : decode cX12_readFact 39 = .ok (.aload_n 0, 1) := by decide +kernel
theorem dX12_readFact_40 : decode cX12_readFact 40 = .ok (.bipush 123, 2) := by decide +kernel
theorem dX12_readFact_42 : decode cX12_readFact 42 = .ok (.invokevirtual 431, 3) := by decide +kernel
theorem dX12_readFact_45 : decode cX12_readFact 45 = .ok (.ifCond .eq 30, 3) := by decide +kernel
theorem dX12_readFact_48 : decode cX12_readFact 48 = .ok (.aload_n 0, 1) := by decide +kernel
theorem dX12_readFact_49 : decode cX12_readFact 49 = .ok (.invokevirtual 499, 3) := by decide +kernel
theorem dX12_readFact_52 : decode cX12_readFact 52 = .ok (.aload_n 0, 1) := by decide +kernel
theorem dX12_readFact_53 : decode cX12_readFact 53 = .ok (.invokevirtual 505, 3) := by decide +kernel
theorem dX12_readFact_56 : decode cX12_readFact 56 = .ok (.istore_n 1, 1) := by decide +kernel
theorem dX12_readFact_57 : decode cX12_readFact 57 = .ok (.aload_n 0, 1) := by decide +kernel
theorem dX12_readFact_58 : decode cX12_readFact 58 = .ok (.bipush 125, 2) := by decide +kernel
theorem dX12_readFact_60 : decode cX12_readFact 60 = .ok (.invokevirtual 447, 3) := by decide +kernel
theorem dX12_readFact_63 : decode cX12_readFact 63 = .ok (.aload_n 0, 1) := by decide +kernel
theorem dX12_readFact_64 : decode cX12_readFact 64 = .ok (.dup, 1) := by decide +kernel
theorem dX12_readFact_65 : decode cX12_readFact 65 = .ok (.getfield 413, 3) := by decide +kernel
theorem dX12_readFact_68 : decode cX12_readFact 68 = .ok (.iconst 1, 1) := by decide +kernel
theorem dX12_readFact_69 : decode cX12_readFact 69 = .ok (.isub, 1) := by decide +kernel
theorem dX12_readFact_70 : decode cX12_readFact 70 = .ok (.putfield 413, 3) := by decide +kernel
theorem dX12_readFact_73 : decode cX12_readFact 73 = .ok (.iload_n 1, 1) := by decide +kernel
theorem dX12_readFact_74 : decode cX12_readFact 74 = .ok (.ireturn, 1) := by decide +kernel
theorem dX12_readFact_75 : decode cX12_readFact 75 = .ok (.aload_n 0, 1) := by decide +kernel
theorem dX12_readFact_76 : decode cX12_readFact 76 = .ok (.invokevirtual 508, 3) := by decide +kernel
theorem dX12_readFact_79 : decode cX12_readFact 79 = .ok (.lstore_n 1, 1) := by decide +kernel
theorem dX12_readFact_80 : decode cX12_readFact 80 = .ok (.aload_n 0, 1) := by decide +kernel
theorem dX12_readFact_81 : decode cX12_readFact 81 = .ok (.bipush 60, 2) := by decide +kernel
theorem dX12_readFact_83 : decode cX12_readFact 83 = .ok (.invokevirtual 431, 3) := by decide +kernel
theorem dX12_readFact_86 : decode cX12_readFact 86 = .ok (.ifCond .eq 7, 3) := by decide +kernel
theorem dX12_readFact_89 : decode cX12_readFact 89 = .ok (.iconst (-1), 1) := by decide +kernel
theorem dX12_readFact_90 : decode cX12_readFact 90 = .ok (.goto 30, 3) := by decide +kernel
theorem dX12_readFact_93 : decode cX12_readFact 93 = .ok (.aload_n 0, 1) := by decide +kernel
theorem dX12_readFact_94 : decode cX12_readFact 94 = .ok (.bipush 61, 2) := by decide +kernel
theorem dX12_readFact_96 : decode cX12_readFact 96 = .ok (.invokevirtual 431, 3) := by decide +kernel
theorem dX12_readFact_99 : decode cX12_readFact 99 = .ok (.ifCond .eq 7, 3) := by decide +kernel
theorem dX12_readFact_102 : decode cX12_readFact 102 = .ok (.iconst 0, 1) := by decide +kernel
theorem dX12_readFact_103 : decode cX12_readFact 103 = .ok (.goto 17, 3) := by decide +kernel
theorem dX12_readFact_106 : decode cX12_readFact 106 = .ok (.aload_n 0, 1) := by decide +kernel
theorem dX12_readFact_107 : decode cX12_readFact 107 = .ok (.bipush 62, 2) := by decide +kernel
theorem dX12_readFact_109 : decode cX12_readFact 109 = .ok (.invokevirtual 431, 3) := by decide +kernel
theorem dX12_readFact_112 : decode cX12_readFact 112 = .ok (.ifCond .eq 7, 3) := by decide +kernel
theorem dX12_readFact_115 : decode cX12_readFact 115 = .ok (.iconst 1, 1) := by decide +kernel
theorem dX12_readFact_116 : decode cX12_readFact 116 = .ok (.goto 4, 3) := by decide +kernel
theorem dX12_readFact_119 : decode cX12_readFact 119 = .ok (.iconst 2, 1) := by decide +kernel
theorem dX12_readFact_120 : decode cX12_readFact 120 = .ok (.istore_n 3, 1) := by decide +kernel
theorem dX12_readFact_121 : decode cX12_readFact 121 = .ok (.iload_n 3, 1) := by decide +kernel
theorem dX12_readFact_122 : decode cX12_readFact 122 = .ok (.iconst 2, 1) := by decide +kernel
theorem dX12_readFact_123 : decode cX12_readFact 123 = .ok (.if_icmp .ne 8, 3) := by decide +kernel
theorem dX12_readFact_126 : decode cX12_readFact 126 = .ok (.aload_n 0, 1) := by decide +kernel
theorem dX12_readFact_127 : decode cX12_readFact 127 = .ok (.iconst 1, 1) := by decide +kernel
theorem dX12_readFact_128 : decode cX12_readFact 128 = .ok (.invokevirtual 434, 3) := by decide +kernel
theorem dX12_readFact_131 : decode cX12_readFact 131 = .ok (.aload_n 0, 1) := by decide +kernel
theorem dX12_readFact_132 : decode cX12_readFact 132 = .ok (.invokevirtual 437, 3) := by decide +kernel
theorem dX12_readFact_135 : decode cX12_readFact 135 = .ok (.aload_n 0, 1) := by decide +kernel
theorem dX12_readFact_136 : decode cX12_readFact 136 = .ok (.invokevirtual 508, 3) := by decide +kernel
theorem dX12_readFact_139 : decode cX12_readFact 139 = .ok (.lstore 4, 2) := by decide +kernel
theorem dX12_readFact_141 : decode cX12_readFact 141 = .ok (.iload_n 3, 1) := by decide +kernel
theorem dX12_readFact_142 : decode cX12_readFact 142 = .ok (.ifCond .ge 18, 3) := by decide +kernel
theorem dX12_readFact_145 : decode cX12_readFact 145 = .ok (.lload_n 1, 1) := by decide +kernel
theorem dX12_readFact_146 : decode cX12_readFact 146 = .ok (.lload 4, 2) := by decide +kernel
theorem dX12_readFact_148 : decode cX12_readFact 148 = .ok (.lcmp, 1) := by decide +kernel
theorem dX12_readFact_149 : decode cX12_readFact 149 = .ok (.ifCond .ge 7, 3) := by decide +kernel
theorem dX12_readFact_152 : decode cX12_readFact 152 = .ok (.iconst 1, 1) := by decide +kernel
theorem dX12_readFact_153 : decode cX12_readFact 153 = .ok (.goto 38, 3) := by decide +kernel
theorem dX12_readFact_156 : decode cX12_readFact 156 = .ok (.iconst 0, 1) := by decide +kernel
theorem dX12_readFact_157 : decode cX12_readFact 157 = .ok (.goto 34, 3) := by decide +kernel
theorem dX12_readFact_160 : decode cX12_readFact 160 = .ok (.iload_n 3, 1) := by decide +kernel
theorem dX12_readFact_161 : decode cX12_readFact 161 = .ok (.ifCond .ne 18, 3) := by decide +kernel
theorem dX12_readFact_164 : decode cX12_readFact 164 = .ok (.lload_n 1, 1) := by decide +kernel
theorem dX12_readFact_165 : decode cX12_readFact 165 = .ok (.lload 4, 2) := by decide +kernel
theorem dX12_readFact_167 : decode cX12_readFact 167 = .ok (.lcmp, 1) := by decide +kernel
theorem dX12_readFact_168 : decode cX12_readFact 168 = .ok (.ifCond .ne 7, 3) := by decide +kernel
theorem dX12_readFact_171 : decode cX12_readFact 171 = .ok (.iconst 1, 1) := by decide +kernel
theorem dX12_readFact_172 : decode cX12_readFact 172 = .ok (.goto 19, 3) := by decide +kernel
theorem dX12_readFact_175 : decode cX12_readFact 175 = .ok (.iconst 0, 1) := by decide +kernel
theorem dX12_readFact_176 : decode cX12_readFact 176 = .ok (.goto 15, 3) := by decide +kernel
theorem dX12_readFact_179 : decode cX12_readFact 179 = .ok (.lload_n 1, 1) := by decide +kernel
theorem dX12_readFact_180 : decode cX12_readFact 180 = .ok (.lload 4, 2) := by decide +kernel
theorem dX12_readFact_182 : decode cX12_readFact 182 = .ok (.lcmp, 1) := by decide +kernel
theorem dX12_readFact_183 : decode cX12_readFact 183 = .ok (.ifCond .le 7, 3) := by decide +kernel
theorem dX12_readFact_186 : decode cX12_readFact 186 = .ok (.iconst 1, 1) := by decide +kernel
theorem dX12_readFact_187 : decode cX12_readFact 187 = .ok (.goto 4, 3) := by decide +kernel
theorem dX12_readFact_190 : decode cX12_readFact 190 = .ok (.iconst 0, 1) := by decide +kernel
theorem dX12_readFact_191 : decode cX12_readFact 191 = .ok (.ireturn, 1) := by decide +kernel
theorem dX12_readBoth_0 : decode cX12_readBoth 0 = .ok (.aload_n 0, 1) := by decide +kernel
theorem dX12_readBoth_1 : decode cX12_readBoth 1 = .ok (.invokevirtual 502, 3) := by decide +kernel
theorem dX12_readBoth_4 : decode cX12_readBoth 4 = .ok (.istore_n 1, 1) := by decide +kernel
theorem dX12_readBoth_5 : decode cX12_readBoth 5 = .ok (.aload_n 0, 1) := by decide +kernel
theorem dX12_readBoth_6 : decode cX12_readBoth 6 = .ok (.ldc_w 511, 3) := by decide +kernel
theorem dX12_readBoth_9 : decode cX12_readBoth 9 = .ok (.invokevirtual 479, 3) := by decide +kernel
theorem dX12_readBoth_12 : decode cX12_readBoth 12 = .ok (.ifCond .eq 29, 3) := by decide +kernel
theorem dX12_readBoth_15 : decode cX12_readBoth 15 = .ok (.aload_n 0, 1) := by decide +kernel
theorem dX12_readBoth_16 : decode cX12_readBoth 16 = .ok (.invokevirtual 437, 3) := by decide +kernel
theorem dX12_readBoth_19 : decode cX12_readBoth 19 = .ok (.aload_n 0, 1) := by decide +kernel
theorem dX12_readBoth_20 : decode cX12_readBoth 20 = .ok (.invokevirtual 502, 3) := by decide +kernel
theorem dX12_readBoth_23 : decode cX12_readBoth 23 = .ok (.istore_n 2, 1) := by decide +kernel
theorem dX12_readBoth_24 : decode cX12_readBoth 24 = .ok (.iload_n 1, 1) := by decide +kernel
theorem dX12_readBoth_25 : decode cX12_readBoth 25 = .ok (.ifCond .eq 11, 3) := by decide +kernel
theorem dX12_readBoth_28 : decode cX12_readBoth 28 = .ok (.iload_n 2, 1) := by decide +kernel
theorem dX12_readBoth_29 : decode cX12_readBoth 29 = .ok (.ifCond .eq 7, 3) := by decide +kernel
theorem dX12_readBoth_32 : decode cX12_readBoth 32 = .ok (.iconst 1, 1) := by decide +kernel
theorem dX12_readBoth_33 : decode cX12_readBoth 33 = .ok (.goto 4, 3) := by decide +kernel
theorem dX12_readBoth_36 : decode cX12_readBoth 36 = .ok (.iconst 0, 1) := by decide +kernel
theorem dX12_readBoth_37 : decode cX12_readBoth 37 = .ok (.istore_n 1, 1) := by decide +kernel
theorem dX12_readBoth_38 : decode cX12_readBoth 38 = .ok (.goto (-33), 3) := by decide +kernel
theorem dX12_readBoth_41 : decode cX12_readBoth 41 = .ok (.iload_n 1, 1) := by decide +kernel
theorem dX12_readBoth_42 : decode cX12_readBoth 42 = .ok (.ireturn, 1) := by decide +kernel
theorem dX12_readTest_0 : decode cX12_readTest 0 = .ok (.aload_n 0, 1) := by decide +kernel
theorem dX12_readTest_1 : decode cX12_readTest 1 = .ok (.invokevirtual 513, 3) := by decide +kernel
theorem dX12_readTest_4 : decode cX12_readTest 4 = .ok (.istore_n 1, 1) := by decide +kernel
theorem dX12_readTest_5 : decode cX12_readTest 5 = .ok (.aload_n 0, 1) := by decide +kernel
theorem dX12_readTest_6 : decode cX12_readTest 6 = .ok (.ldc_w 516, 3) := by decide +kernel
theorem dX12_readTest_9 : decode cX12_readTest 9 = .ok (.invokevirtual 479, 3) := by decide +kernel
theorem dX12_readTest_12 : decode cX12_readTest 12 = .ok (.ifCond .eq 29, 3) := by decide +kernel
theorem dX12_readTest_15 : decode cX12_readTest 15 = .ok (.aload_n 0, 1) := by decide +kernel
theorem dX12_readTest_16 : decode cX12_readTest 16 = .ok (.invokevirtual 437, 3) := by decide +kernel
theorem dX12_readTest_19 : decode cX12_readTest 19 = .ok (.aload_n 0, 1) := by decide +kernel
theorem dX12_readTest_20 : decode cX12_readTest 20 = .ok (.invokevirtual 513, 3) := by decide +kernel
theorem dX12_readTest_23 : decode cX12_readTest 23 = .ok (.istore_n 2, 1) := by decide +kernel
theorem dX12_readTest_24 : decode cX12_readTest 24 = .ok (.iload_n 1, 1) := by decide +kernel
theorem dX12_readTest_25 : decode cX12_readTest 25 = .ok (.ifCond .ne 7, 3) := by decide +kernel
theorem dX12_readTest_28 : decode cX12_readTest 28 = .ok (.iload_n 2, 1) := by decide +kernel
theorem dX12_readTest_29 : decode cX12_readTest 29 = .ok (.ifCond .eq 7, 3) := by decide +kernel
theorem dX12_readTest_32 : decode cX12_readTest 32 = .ok (.iconst 1, 1) := by decide +kernel
theorem dX12_readTest_33 : decode cX12_readTest 33 = .ok (.goto 4, 3) := by decide +kernel
theorem dX12_readTest_36 : decode cX12_readTest 36 = .ok (.iconst 0, 1) := by decide +kernel
theorem dX12_readTest_37 : decode cX12_readTest 37 = .ok (.istore_n 1, 1) := by decide +kernel
theorem dX12_readTest_38 : decode cX12_readTest 38 = .ok (.goto (-33), 3) := by decide +kernel
theorem dX12_readTest_41 : decode cX12_readTest 41 = .ok (.iload_n 1, 1) := by decide +kernel
theorem dX12_readTest_42 : decode cX12_readTest 42 = .ok (.ireturn, 1) := by decide +kernel
theorem dX12_readQuestion_0 : decode cX12_readQuestion 0 = .ok (.aload_n 0, 1) := by decide +kernel
theorem dX12_readQuestion_1 : decode cX12_readQuestion 1 = .ok (.iload_n 2, 1) := by decide +kernel
theorem dX12_readQuestion_2 : decode cX12_readQuestion 2 = .ok (.putfield 474, 3) := by decide +kernel
theorem dX12_readQuestion_5 : decode cX12_readQuestion 5 = .ok (.aload_n 0, 1) := by decide +kernel
theorem dX12_readQuestion_6 : decode cX12_readQuestion 6 = .ok (.iload_n 1, 1) := by decide +kernel
theorem dX12_readQuestion_7 : decode cX12_readQuestion 7 = .ok (.invokevirtual 465, 3) := by decide +kernel
theorem dX12_readQuestion_10 : decode cX12_readQuestion 10 = .ok (.aload_n 0, 1) := by decide +kernel
theorem dX12_readQuestion_11 : decode cX12_readQuestion 11 = .ok (.ldc_w 518, 3) := by decide +kernel
theorem dX12_readQuestion_14 : decode cX12_readQuestion 14 = .ok (.invokevirtual 479, 3) := by decide +kernel
theorem dX12_readQuestion_17 : decode cX12_readQuestion 17 = .ok (.ifCond .ne 18, 3) := by decide +kernel
theorem dX12_readQuestion_20 : decode cX12_readQuestion 20 = .ok (.aload_n 0, 1) := by decide +kernel
theorem dX12_readQuestion_21 : decode cX12_readQuestion 21 = .ok (.ldc_w 519, 3) := by decide +kernel
theorem dX12_readQuestion_24 : decode cX12_readQuestion 24 = .ok (.invokevirtual 479, 3) := by decide +kernel
theorem dX12_readQuestion_27 : decode cX12_readQuestion 27 = .ok (.ifCond .ne 8, 3) := by decide +kernel
theorem dX12_readQuestion_30 : decode cX12_readQuestion 30 = .ok (.aload_n 0, 1) := by decide +kernel
theorem dX12_readQuestion_31 : decode cX12_readQuestion 31 = .ok (.iconst 1, 1) := by decide +kernel
theorem dX12_readQuestion_32 : decode cX12_readQuestion 32 = .ok (.invokevirtual 434, 3) := by decide +kernel
theorem dX12_readQuestion_35 : decode cX12_readQuestion 35 = .ok (.aload_n 0, 1) := by decide +kernel
theorem dX12_readQuestion_36 : decode cX12_readQuestion 36 = .ok (.invokevirtual 437, 3) := by decide +kernel
theorem dX12_readQuestion_39 : decode cX12_readQuestion 39 = .ok (.aload_n 0, 1) := by decide +kernel
theorem dX12_readQuestion_40 : decode cX12_readQuestion 40 = .ok (.invokevirtual 505, 3) := by decide +kernel
theorem dX12_readQuestion_43 : decode cX12_readQuestion 43 = .ok (.istore_n 3, 1) := by decide +kernel
theorem dX12_readQuestion_44 : decode cX12_readQuestion 44 = .ok (.aload_n 0, 1) := by decide +kernel
theorem dX12_readQuestion_45 : decode cX12_readQuestion 45 = .ok (.getfield 410, 3) := by decide +kernel
theorem dX12_readQuestion_48 : decode cX12_readQuestion 48 = .ok (.ifCond .ne 15, 3) := by decide +kernel
theorem dX12_readQuestion_51 : decode cX12_readQuestion 51 = .ok (.aload_n 0, 1) := by decide +kernel
theorem dX12_readQuestion_52 : decode cX12_readQuestion 52 = .ok (.getfield 398, 3) := by decide +kernel
theorem dX12_readQuestion_55 : decode cX12_readQuestion 55 = .ok (.ifCond .eq 8, 3) := by decide +kernel
theorem dX12_readQuestion_58 : decode cX12_readQuestion 58 = .ok (.aload_n 0, 1) := by decide +kernel
theorem dX12_readQuestion_59 : decode cX12_readQuestion 59 = .ok (.iconst 1, 1) := by decide +kernel
theorem dX12_readQuestion_60 : decode cX12_readQuestion 60 = .ok (.invokevirtual 434, 3) := by decide +kernel
theorem dX12_readQuestion_63 : decode cX12_readQuestion 63 = .ok (.iload_n 3, 1) := by decide +kernel
theorem dX12_readQuestion_64 : decode cX12_readQuestion 64 = .ok (.ireturn, 1) := by decide +kernel
theorem dX12_ask_0 : decode cX12_ask 0 = .ok (.aload_n 0, 1) := by decide +kernel
theorem dX12_ask_1 : decode cX12_ask 1 = .ok (.iconst 0, 1) := by decide +kernel
theorem dX12_ask_2 : decode cX12_ask 2 = .ok (.putfield 73, 3) := by decide +kernel
theorem dX12_ask_5 : decode cX12_ask 5 = .ok (.aload_n 0, 1) := by decide +kernel
theorem dX12_ask_6 : decode cX12_ask 6 = .ok (.iload_n 1, 1) := by decide +kernel
theorem dX12_ask_7 : decode cX12_ask 7 = .ok (.iload_n 2, 1) := by decide +kernel
theorem dX12_ask_8 : decode cX12_ask 8 = .ok (.invokevirtual 462, 3) := by decide +kernel
theorem dX12_ask_11 : decode cX12_ask 11 = .ok (.ifCond .ne 9, 3) := by decide +kernel
theorem dX12_ask_14 : decode cX12_ask 14 = .ok (.aload_n 0, 1) := by decide +kernel
theorem dX12_ask_15 : decode cX12_ask 15 = .ok (.iconst 1, 1) := by decide +kernel
theorem dX12_ask_16 : decode cX12_ask 16 = .ok (.invokevirtual 299, 3) := by decide +kernel
theorem dX12_ask_19 : decode cX12_ask 19 = .ok (.ireturn, 1) := by decide +kernel
theorem dX12_ask_20 : decode cX12_ask 20 = .ok (.aload_n 0, 1) := by decide +kernel
theorem dX12_ask_21 : decode cX12_ask 21 = .ok (.iload_n 1, 1) := by decide +kernel
theorem dX12_ask_22 : decode cX12_ask 22 = .ok (.putfield 484, 3) := by decide +kernel
theorem dX12_ask_25 : decode cX12_ask 25 = .ok (.aload_n 0, 1) := by decide +kernel
theorem dX12_ask_26 : decode cX12_ask 26 = .ok (.iload_n 2, 1) := by decide +kernel
theorem dX12_ask_27 : decode cX12_ask 27 = .ok (.invokevirtual 465, 3) := by decide +kernel
theorem dX12_ask_30 : decode cX12_ask 30 = .ok (.aload_n 0, 1) := by decide +kernel
theorem dX12_ask_31 : decode cX12_ask 31 = .ok (.ldc_w 519, 3) := by decide +kernel
theorem dX12_ask_34 : decode cX12_ask 34 = .ok (.invokevirtual 479, 3) := by decide +kernel
theorem dX12_ask_37 : decode cX12_ask 37 = .ok (.istore_n 3, 1) := by decide +kernel
theorem dX12_ask_38 : decode cX12_ask 38 = .ok (.aload_n 0, 1) := by decide +kernel
theorem dX12_ask_39 : decode cX12_ask 39 = .ok (.iload_n 2, 1) := by decide +kernel
theorem dX12_ask_40 : decode cX12_ask 40 = .ok (.iconst (-1), 1) := by decide +kernel
theorem dX12_ask_41 : decode cX12_ask 41 = .ok (.invokevirtual 521, 3) := by decide +kernel
theorem dX12_ask_44 : decode cX12_ask 44 = .ok (.istore 4, 2) := by decide +kernel
theorem dX12_ask_46 : decode cX12_ask 46 = .ok (.aload_n 0, 1) := by decide +kernel
theorem dX12_ask_47 : decode cX12_ask 47 = .ok (.invokevirtual 471, 3) := by decide +kernel
theorem dX12_ask_50 : decode cX12_ask 50 = .ok (.istore 5, 2) := by decide +kernel
theorem dX12_ask_52 : decode cX12_ask 52 = .ok (.iload 5, 2) := by decide +kernel
theorem dX12_ask_54 : decode cX12_ask 54 = .ok (.ifCond .eq 10, 3) := by decide +kernel
theorem dX12_ask_57 : decode cX12_ask 57 = .ok (.ldc_w 354, 3) := by decide +kernel
theorem dX12_ask_60 : decode cX12_ask 60 = .ok (.iload 5, 2) := by decide +kernel
theorem dX12_ask_62 : decode cX12_ask 62 = .ok (.isub, 1) := by decide +kernel
theorem dX12_ask_63 : decode cX12_ask 63 = .ok (.ireturn, 1) := by decide +kernel
theorem dX12_ask_64 : decode cX12_ask 64 = .ok (.iconst 0, 1) := by decide +kernel
theorem dX12_ask_65 : decode cX12_ask 65 = .ok (.istore 6, 2) := by decide +kernel
theorem dX12_ask_67 : decode cX12_ask 67 = .ok (.iconst 0, 1) := by decide +kernel
theorem dX12_ask_68 : decode cX12_ask 68 = .ok (.istore 7, 2) := by decide +kernel
theorem dX12_ask_70 : decode cX12_ask 70 = .ok (.iload 7, 2) := by decide +kernel
theorem dX12_ask_72 : decode cX12_ask 72 = .ok (.aload_n 0, 1) := by decide +kernel
theorem dX12_ask_73 : decode cX12_ask 73 = .ok (.getfield 19, 3) := by decide +kernel
theorem dX12_ask_76 : decode cX12_ask 76 = .ok (.iload_n 1, 1) := by decide +kernel
theorem dX12_ask_77 : decode cX12_ask 77 = .ok (.iaload, 1) := by decide +kernel
theorem dX12_ask_78 : decode cX12_ask 78 = .ok (.if_icmp .ge 32, 3) := by decide +kernel
theorem dX12_ask_81 : decode cX12_ask 81 = .ok (.aload_n 0, 1) := by decide +kernel
theorem dX12_ask_82 : decode cX12_ask 82 = .ok (.iload_n 2, 1) := by decide +kernel
theorem dX12_ask_83 : decode cX12_ask 83 = .ok (.iload 7, 2) := by decide +kernel
theorem dX12_ask_85 : decode cX12_ask 85 = .ok (.invokevirtual 521, 3) := by decide +kernel
theorem dX12_ask_88 : decode cX12_ask 88 = .ok (.ifCond .ne 6, 3) := by decide +kernel
theorem dX12_ask_91 : decode cX12_ask 91 = .ok (.goto 13, 3) := by decide +kernel
theorem dX12_ask_94 : decode cX12_ask 94 = .ok (.iload_n 3, 1) := by decide +kernel
theorem dX12_ask_95 : decode cX12_ask 95 = .ok (.ifCond .eq 6, 3) := by decide +kernel
theorem dX12_ask_98 : decode cX12_ask 98 = .ok (.iload 7, 2) := by decide +kernel
theorem dX12_ask_100 : decode cX12_ask 100 = .ok (.ireturn, 1) := by decide +kernel
theorem dX12_ask_101 : decode cX12_ask 101 = .ok (.iinc 6 1, 3) := by decide +kernel
theorem dX12_ask_104 : decode cX12_ask 104 = .ok (.iinc 7 1, 3) := by decide +kernel
theorem dX12_ask_107 : decode cX12_ask 107 = .ok (.goto (-37), 3) := by decide +kernel
theorem dX12_ask_110 : decode cX12_ask 110 = .ok (.iload_n 3, 1) := by decide +kernel
theorem dX12_ask_111 : decode cX12_ask 111 = .ok (.ifCond .eq 7, 3) := by decide +kernel
theorem dX12_ask_114 : decode cX12_ask 114 = .ok (.iconst (-1), 1) := by decide +kernel
theorem dX12_ask_115 : decode cX12_ask 115 = .ok (.goto 5, 3) := by decide +kernel
theorem dX12_ask_118 : decode cX12_ask 118 = .ok (.iload 6, 2) := by decide +kernel
theorem dX12_ask_120 : decode cX12_ask 120 = .ok (.ireturn, 1) := by decide +kernel
