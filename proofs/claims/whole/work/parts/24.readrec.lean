theorem lkRX5_112 : Cond.methodLink RX5 112 yX5_readSum ∈ lw_tbl := tb_i 597 (by decide +kernel)
theorem lkRX5_115 : Cond.methodLink RX5 115 yX5_readProduct ∈ lw_tbl := tb_i 601 (by decide +kernel)
theorem lkRX5_118 : Cond.methodLink RX5 118 yX5_readOne ∈ lw_tbl := tb_i 605 (by decide +kernel)
theorem lkRX5_121 : Cond.methodLink RX5 121 yX5_readName ∈ lw_tbl := tb_i 609 (by decide +kernel)
theorem lkRX5_124 : Cond.methodLink RX5 124 yX5_readNumber ∈ lw_tbl := tb_i 613 (by decide +kernel)
theorem lkRX5_127 : Cond.methodLink RX5 127 yX5_enter ∈ lw_tbl := tb_i 617 (by decide +kernel)
theorem lkRX5_130 : Cond.methodLink RX5 130 yX5_readChoice ∈ lw_tbl := tb_i 621 (by decide +kernel)
theorem lkRX5_133 : Cond.methodLink RX5 133 yX5_readEither ∈ lw_tbl := tb_i 625 (by decide +kernel)
theorem lkRX5_136 : Cond.methodLink RX5 136 yX7_aim ∈ lw_tbl := tb_i 640 (by decide +kernel)
theorem lkRX5_139 : Cond.methodLink RX5 139 yX5_readBoth ∈ lw_tbl := tb_i 629 (by decide +kernel)
theorem lkRX5_142 : Cond.methodLink RX5 142 yX5_readAsk ∈ lw_tbl := tb_i 633 (by decide +kernel)
theorem lkRX5_145 : Cond.methodLink RX5 145 yX5_compares ∈ lw_tbl := tb_i 637 (by decide +kernel)
theorem dX5_readSum_0 : decode cX5_readSum 0 = .ok (.aload_n 0, 1) := by decide +kernel
theorem dX5_readSum_1 : decode cX5_readSum 1 = .ok (.iload_n 1, 1) := by decide +kernel
theorem dX5_readSum_2 : decode cX5_readSum 2 = .ok (.invokevirtual 115, 3) := by decide +kernel
theorem dX5_readSum_5 : decode cX5_readSum 5 = .ok (.ifCond .ne 5, 3) := by decide +kernel
theorem dX5_readSum_8 : decode cX5_readSum 8 = .ok (.iconst 0, 1) := by decide +kernel
theorem dX5_readSum_9 : decode cX5_readSum 9 = .ok (.ireturn, 1) := by decide +kernel
theorem dX5_readSum_10 : decode cX5_readSum 10 = .ok (.iconst 0, 1) := by decide +kernel
theorem dX5_readSum_11 : decode cX5_readSum 11 = .ok (.istore_n 2, 1) := by decide +kernel
theorem dX5_readSum_12 : decode cX5_readSum 12 = .ok (.iload_n 2, 1) := by decide +kernel
theorem dX5_readSum_13 : decode cX5_readSum 13 = .ok (.sipush 300, 3) := by decide +kernel
theorem dX5_readSum_16 : decode cX5_readSum 16 = .ok (.if_icmp .ge 61, 3) := by decide +kernel
theorem dX5_readSum_19 : decode cX5_readSum 19 = .ok (.aload_n 0, 1) := by decide +kernel
theorem dX5_readSum_20 : decode cX5_readSum 20 = .ok (.getfield 36, 3) := by decide +kernel
theorem dX5_readSum_23 : decode cX5_readSum 23 = .ok (.bipush 43, 2) := by decide +kernel
theorem dX5_readSum_25 : decode cX5_readSum 25 = .ok (.if_icmp .eq 12, 3) := by decide +kernel
theorem dX5_readSum_28 : decode cX5_readSum 28 = .ok (.aload_n 0, 1) := by decide +kernel
theorem dX5_readSum_29 : decode cX5_readSum 29 = .ok (.getfield 36, 3) := by decide +kernel
theorem dX5_readSum_32 : decode cX5_readSum 32 = .ok (.bipush 45, 2) := by decide +kernel
theorem dX5_readSum_34 : decode cX5_readSum 34 = .ok (.if_icmp .ne 43, 3) := by decide +kernel
theorem dX5_readSum_37 : decode cX5_readSum 37 = .ok (.aload_n 0, 1) := by decide +kernel
theorem dX5_readSum_38 : decode cX5_readSum 38 = .ok (.getfield 36, 3) := by decide +kernel
theorem dX5_readSum_41 : decode cX5_readSum 41 = .ok (.istore_n 3, 1) := by decide +kernel
theorem dX5_readSum_42 : decode cX5_readSum 42 = .ok (.aload_n 0, 1) := by decide +kernel
theorem dX5_readSum_43 : decode cX5_readSum 43 = .ok (.aload_n 0, 1) := by decide +kernel
theorem dX5_readSum_44 : decode cX5_readSum 44 = .ok (.getfield 47, 3) := by decide +kernel
theorem dX5_readSum_47 : decode cX5_readSum 47 = .ok (.iconst 1, 1) := by decide +kernel
theorem dX5_readSum_48 : decode cX5_readSum 48 = .ok (.iadd, 1) := by decide +kernel
theorem dX5_readSum_49 : decode cX5_readSum 49 = .ok (.invokevirtual 32, 3) := by decide +kernel
theorem dX5_readSum_52 : decode cX5_readSum 52 = .ok (.aload_n 0, 1) := by decide +kernel
theorem dX5_readSum_53 : decode cX5_readSum 53 = .ok (.iload_n 1, 1) := by decide +kernel
theorem dX5_readSum_54 : decode cX5_readSum 54 = .ok (.invokevirtual 115, 3) := by decide +kernel
theorem dX5_readSum_57 : decode cX5_readSum 57 = .ok (.ifCond .ne 5, 3) := by decide +kernel
theorem dX5_readSum_60 : decode cX5_readSum 60 = .ok (.iconst 0, 1) := by decide +kernel
theorem dX5_readSum_61 : decode cX5_readSum 61 = .ok (.ireturn, 1) := by decide +kernel
theorem dX5_readSum_62 : decode cX5_readSum 62 = .ok (.aload_n 0, 1) := by decide +kernel
theorem dX5_readSum_63 : decode cX5_readSum 63 = .ok (.getfield 12, 3) := by decide +kernel
theorem dX5_readSum_66 : decode cX5_readSum 66 = .ok (.iload_n 3, 1) := by decide +kernel
theorem dX5_readSum_67 : decode cX5_readSum 67 = .ok (.invokevirtual 105, 3) := by decide +kernel
theorem dX5_readSum_70 : decode cX5_readSum 70 = .ok (.pop, 1) := by decide +kernel
theorem dX5_readSum_71 : decode cX5_readSum 71 = .ok (.iinc 2 1, 3) := by decide +kernel
theorem dX5_readSum_74 : decode cX5_readSum 74 = .ok (.goto (-62), 3) := by decide +kernel
theorem dX5_readSum_77 : decode cX5_readSum 77 = .ok (.iconst 1, 1) := by decide +kernel
theorem dX5_readSum_78 : decode cX5_readSum 78 = .ok (.ireturn, 1) := by decide +kernel
def m5_readSum : pMT := (yX5_readSum, cX5_readSum, 4, some .boolean)
theorem mo5_readSum : mOK m5_readSum 1 := ⟨tb_i 600 (by decide +kernel), wi_RX5, ⟨wn_RX5.1, wn_RX5.2, by decide +kernel⟩, by decide, plainFor_of_name wp_RX5⟩
theorem mv5_readSum : mV m5_readSum := ⟨tb_i 599 (by decide +kernel), tb_p 16 (by decide +kernel)⟩
theorem dX5_readProduct_0 : decode cX5_readProduct 0 = .ok (.aload_n 0, 1) := by decide +kernel
theorem dX5_readProduct_1 : decode cX5_readProduct 1 = .ok (.iload_n 1, 1) := by decide +kernel
theorem dX5_readProduct_2 : decode cX5_readProduct 2 = .ok (.invokevirtual 118, 3) := by decide +kernel
theorem dX5_readProduct_5 : decode cX5_readProduct 5 = .ok (.ifCond .ne 5, 3) := by decide +kernel
theorem dX5_readProduct_8 : decode cX5_readProduct 8 = .ok (.iconst 0, 1) := by decide +kernel
theorem dX5_readProduct_9 : decode cX5_readProduct 9 = .ok (.ireturn, 1) := by decide +kernel
theorem dX5_readProduct_10 : decode cX5_readProduct 10 = .ok (.iconst 0, 1) := by decide +kernel
theorem dX5_readProduct_11 : decode cX5_readProduct 11 = .ok (.istore_n 2, 1) := by decide +kernel
theorem dX5_readProduct_12 : decode cX5_readProduct 12 = .ok (.iload_n 2, 1) := by decide +kernel
theorem dX5_readProduct_13 : decode cX5_readProduct 13 = .ok (.sipush 300, 3) := by decide +kernel
theorem dX5_readProduct_16 : decode cX5_readProduct 16 = .ok (.if_icmp .ge 61, 3) := by decide +kernel
theorem dX5_readProduct_19 : decode cX5_readProduct 19 = .ok (.aload_n 0, 1) := by decide +kernel
theorem dX5_readProduct_20 : decode cX5_readProduct 20 = .ok (.getfield 36, 3) := by decide +kernel
theorem dX5_readProduct_23 : decode cX5_readProduct 23 = .ok (.bipush 42, 2) := by decide +kernel
theorem dX5_readProduct_25 : decode cX5_readProduct 25 = .ok (.if_icmp .eq 12, 3) := by decide +kernel
theorem dX5_readProduct_28 : decode cX5_readProduct 28 = .ok (.aload_n 0, 1) := by decide +kernel
theorem dX5_readProduct_29 : decode cX5_readProduct 29 = .ok (.getfield 36, 3) := by decide +kernel
theorem dX5_readProduct_32 : decode cX5_readProduct 32 = .ok (.bipush 47, 2) := by decide +kernel
theorem dX5_readProduct_34 : decode cX5_readProduct 34 = .ok (.if_icmp .ne 43, 3) := by decide +kernel
theorem dX5_readProduct_37 : decode cX5_readProduct 37 = .ok (.aload_n 0, 1) := by decide +kernel
theorem dX5_readProduct_38 : decode cX5_readProduct 38 = .ok (.getfield 36, 3) := by decide +kernel
theorem dX5_readProduct_41 : decode cX5_readProduct 41 = .ok (.istore_n 3, 1) := by decide +kernel
theorem dX5_readProduct_42 : decode cX5_readProduct 42 = .ok (.aload_n 0, 1) := by decide +kernel
theorem dX5_readProduct_43 : decode cX5_readProduct 43 = .ok (.aload_n 0, 1) := by decide +kernel
theorem dX5_readProduct_44 : decode cX5_readProduct 44 = .ok (.getfield 47, 3) := by decide +kernel
theorem dX5_readProduct_47 : decode cX5_readProduct 47 = .ok (.iconst 1, 1) := by decide +kernel
theorem dX5_readProduct_48 : decode cX5_readProduct 48 = .ok (.iadd, 1) := by decide +kernel
theorem dX5_readProduct_49 : decode cX5_readProduct 49 = .ok (.invokevirtual 32, 3) := by decide +kernel
theorem dX5_readProduct_52 : decode cX5_readProduct 52 = .ok (.aload_n 0, 1) := by decide +kernel
theorem dX5_readProduct_53 : decode cX5_readProduct 53 = .ok (.iload_n 1, 1) := by decide +kernel
theorem dX5_readProduct_54 : decode cX5_readProduct 54 = .ok (.invokevirtual 118, 3) := by decide +kernel
theorem dX5_readProduct_57 : decode cX5_readProduct 57 = .ok (.ifCond .ne 5, 3) := by decide +kernel
theorem dX5_readProduct_60 : decode cX5_readProduct 60 = .ok (.iconst 0, 1) := by decide +kernel
theorem dX5_readProduct_61 : decode cX5_readProduct 61 = .ok (.ireturn, 1) := by decide +kernel
theorem dX5_readProduct_62 : decode cX5_readProduct 62 = .ok (.aload_n 0, 1) := by decide +kernel
theorem dX5_readProduct_63 : decode cX5_readProduct 63 = .ok (.getfield 12, 3) := by decide +kernel
theorem dX5_readProduct_66 : decode cX5_readProduct 66 = .ok (.iload_n 3, 1) := by decide +kernel
theorem dX5_readProduct_67 : decode cX5_readProduct 67 = .ok (.invokevirtual 105, 3) := by decide +kernel
theorem dX5_readProduct_70 : decode cX5_readProduct 70 = .ok (.pop, 1) := by decide +kernel
theorem dX5_readProduct_71 : decode cX5_readProduct 71 = .ok (.iinc 2 1, 3) := by decide +kernel
theorem dX5_readProduct_74 : decode cX5_readProduct 74 = .ok (.goto (-62), 3) := by decide +kernel
theorem dX5_readProduct_77 : decode cX5_readProduct 77 = .ok (.iconst 1, 1) := by decide +kernel
theorem dX5_readProduct_78 : decode cX5_readProduct 78 = .ok (.ireturn, 1) := by decide +kernel
def m5_readProduct : pMT := (yX5_readProduct, cX5_readProduct, 4, some .boolean)
theorem mo5_readProduct : mOK m5_readProduct 1 := ⟨tb_i 604 (by decide +kernel), wi_RX5, ⟨wn_RX5.1, wn_RX5.2, by decide +kernel⟩, by decide, plainFor_of_name wp_RX5⟩
theorem mv5_readProduct : mV m5_readProduct := ⟨tb_i 603 (by decide +kernel), tb_p 17 (by decide +kernel)⟩
theorem dX5_readOne_0 : decode cX5_readOne 0 = .ok (.aload_n 0, 1) := by decide +kernel
theorem dX5_readOne_1 : decode cX5_readOne 1 = .ok (.getfield 36, 3) := by decide +kernel
theorem dX5_readOne_4 : decode cX5_readOne 4 = .ok (.istore_n 2, 1) := by decide +kernel
theorem dX5_readOne_5 : decode cX5_readOne 5 = .ok (.iload_n 2, 1) := by decide +kernel
theorem dX5_readOne_6 : decode cX5_readOne 6 = .ok (.bipush 7, 2) := by decide +kernel
theorem dX5_readOne_8 : decode cX5_readOne 8 = .ok (.if_icmp .lt 15, 3) := by decide +kernel
theorem dX5_readOne_11 : decode cX5_readOne 11 = .ok (.iload_n 2, 1) := by decide +kernel
theorem dX5_readOne_12 : decode cX5_readOne 12 = .ok (.bipush 13, 2) := by decide +kernel
theorem dX5_readOne_14 : decode cX5_readOne 14 = .ok (.if_icmp .gt 9, 3) := by decide +kernel
theorem dX5_readOne_17 : decode cX5_readOne 17 = .ok (.aload_n 0, 1) := by decide +kernel
theorem dX5_readOne_18 : decode cX5_readOne 18 = .ok (.iload_n 2, 1) := by decide +kernel
theorem dX5_readOne_19 : decode cX5_readOne 19 = .ok (.invokevirtual 121, 3) := by decide +kernel
theorem dX5_readOne_22 : decode cX5_readOne 22 = .ok (.ireturn, 1) := by decide +kernel
theorem dX5_readOne_23 : decode cX5_readOne 23 = .ok (.iload_n 2, 1) := by decide +kernel
theorem dX5_readOne_24 : decode cX5_readOne 24 = .ok (.lookupswitch 164 #[(14, 122), (15, 122), (16, 98), (28, 60), (40, 65), (45, 122)], 60) := by decide +kernel
theorem dX5_readOne_84 : decode cX5_readOne 84 = .ok (.aload_n 0, 1) := by decide +kernel
theorem dX5_readOne_85 : decode cX5_readOne 85 = .ok (.invokevirtual 124, 3) := by decide +kernel
theorem dX5_readOne_88 : decode cX5_readOne 88 = .ok (.ireturn, 1) := by decide +kernel
theorem dX5_readOne_89 : decode cX5_readOne 89 = .ok (.aload_n 0, 1) := by decide +kernel
theorem dX5_readOne_90 : decode cX5_readOne 90 = .ok (.iload_n 1, 1) := by decide +kernel
theorem dX5_readOne_91 : decode cX5_readOne 91 = .ok (.invokevirtual 127, 3) := by decide +kernel
theorem dX5_readOne_94 : decode cX5_readOne 94 = .ok (.ifCond .eq 26, 3) := by decide +kernel
theorem dX5_readOne_97 : decode cX5_readOne 97 = .ok (.aload_n 0, 1) := by decide +kernel
theorem dX5_readOne_98 : decode cX5_readOne 98 = .ok (.iload_n 1, 1) := by decide +kernel
theorem dX5_readOne_99 : decode cX5_readOne 99 = .ok (.iconst 1, 1) := by decide +kernel
theorem dX5_readOne_100 : decode cX5_readOne 100 = .ok (.iadd, 1) := by decide +kernel
theorem dX5_readOne_101 : decode cX5_readOne 101 = .ok (.invokevirtual 112, 3) := by decide +kernel
theorem dX5_readOne_104 : decode cX5_readOne 104 = .ok (.ifCond .eq 16, 3) := by decide +kernel
theorem dX5_readOne_107 : decode cX5_readOne 107 = .ok (.aload_n 0, 1) := by decide +kernel
theorem dX5_readOne_108 : decode cX5_readOne 108 = .ok (.bipush 41, 2) := by decide +kernel
theorem dX5_readOne_110 : decode cX5_readOne 110 = .ok (.invokevirtual 43, 3) := by decide +kernel
theorem dX5_readOne_113 : decode cX5_readOne 113 = .ok (.ifCond .eq 7, 3) := by decide +kernel
theorem dX5_readOne_116 : decode cX5_readOne 116 = .ok (.iconst 1, 1) := by decide +kernel
theorem dX5_readOne_117 : decode cX5_readOne 117 = .ok (.goto 4, 3) := by decide +kernel
theorem dX5_readOne_120 : decode cX5_readOne 120 = .ok (.iconst 0, 1) := by decide +kernel
theorem dX5_readOne_121 : decode cX5_readOne 121 = .ok (.ireturn, 1) := by decide +kernel
theorem dX5_readOne_122 : decode cX5_readOne 122 = .ok (.aload_n 0, 1) := by decide +kernel
theorem dX5_readOne_123 : decode cX5_readOne 123 = .ok (.iload_n 1, 1) := by decide +kernel
theorem dX5_readOne_124 : decode cX5_readOne 124 = .ok (.invokevirtual 127, 3) := by decide +kernel
theorem dX5_readOne_127 : decode cX5_readOne 127 = .ok (.ifCond .eq 17, 3) := by decide +kernel
theorem dX5_readOne_130 : decode cX5_readOne 130 = .ok (.aload_n 0, 1) := by decide +kernel
theorem dX5_readOne_131 : decode cX5_readOne 131 = .ok (.iload_n 1, 1) := by decide +kernel
theorem dX5_readOne_132 : decode cX5_readOne 132 = .ok (.iconst 1, 1) := by decide +kernel
theorem dX5_readOne_133 : decode cX5_readOne 133 = .ok (.iadd, 1) := by decide +kernel
theorem dX5_readOne_134 : decode cX5_readOne 134 = .ok (.invokevirtual 130, 3) := by decide +kernel
theorem dX5_readOne_137 : decode cX5_readOne 137 = .ok (.ifCond .eq 7, 3) := by decide +kernel
theorem dX5_readOne_140 : decode cX5_readOne 140 = .ok (.iconst 1, 1) := by decide +kernel
theorem dX5_readOne_141 : decode cX5_readOne 141 = .ok (.goto 4, 3) := by decide +kernel
theorem dX5_readOne_144 : decode cX5_readOne 144 = .ok (.iconst 0, 1) := by decide +kernel
theorem dX5_readOne_145 : decode cX5_readOne 145 = .ok (.ireturn, 1) := by decide +kernel
theorem dX5_readOne_146 : decode cX5_readOne 146 = .ok (.aload_n 0, 1) := by decide +kernel
theorem dX5_readOne_147 : decode cX5_readOne 147 = .ok (.iload_n 1, 1) := by decide +kernel
theorem dX5_readOne_148 : decode cX5_readOne 148 = .ok (.invokevirtual 127, 3) := by decide +kernel
theorem dX5_readOne_151 : decode cX5_readOne 151 = .ok (.ifCond .eq 13, 3) := by decide +kernel
theorem dX5_readOne_154 : decode cX5_readOne 154 = .ok (.aload_n 0, 1) := by decide +kernel
theorem dX5_readOne_155 : decode cX5_readOne 155 = .ok (.iload_n 1, 1) := by decide +kernel
theorem dX5_readOne_156 : decode cX5_readOne 156 = .ok (.iconst 1, 1) := by decide +kernel
theorem dX5_readOne_157 : decode cX5_readOne 157 = .ok (.iadd, 1) := by decide +kernel
theorem dX5_readOne_158 : decode cX5_readOne 158 = .ok (.invokevirtual 118, 3) := by decide +kernel
theorem dX5_readOne_161 : decode cX5_readOne 161 = .ok (.ifCond .ne 5, 3) := by decide +kernel
theorem dX5_readOne_164 : decode cX5_readOne 164 = .ok (.iconst 0, 1) := by decide +kernel
theorem dX5_readOne_165 : decode cX5_readOne 165 = .ok (.ireturn, 1) := by decide +kernel
theorem dX5_readOne_166 : decode cX5_readOne 166 = .ok (.aload_n 0, 1) := by decide +kernel
theorem dX5_readOne_167 : decode cX5_readOne 167 = .ok (.getfield 12, 3) := by decide +kernel
theorem dX5_readOne_170 : decode cX5_readOne 170 = .ok (.iload_n 2, 1) := by decide +kernel
theorem dX5_readOne_171 : decode cX5_readOne 171 = .ok (.bipush 45, 2) := by decide +kernel
theorem dX5_readOne_173 : decode cX5_readOne 173 = .ok (.if_icmp .ne 8, 3) := by decide +kernel
theorem dX5_readOne_176 : decode cX5_readOne 176 = .ok (.bipush 29, 2) := by decide +kernel
theorem dX5_readOne_178 : decode cX5_readOne 178 = .ok (.goto 4, 3) := by decide +kernel
theorem dX5_readOne_181 : decode cX5_readOne 181 = .ok (.iload_n 2, 1) := by decide +kernel
theorem dX5_readOne_182 : decode cX5_readOne 182 = .ok (.invokevirtual 105, 3) := by decide +kernel
theorem dX5_readOne_185 : decode cX5_readOne 185 = .ok (.pop, 1) := by decide +kernel
theorem dX5_readOne_186 : decode cX5_readOne 186 = .ok (.iconst 1, 1) := by decide +kernel
theorem dX5_readOne_187 : decode cX5_readOne 187 = .ok (.ireturn, 1) := by decide +kernel
theorem dX5_readOne_188 : decode cX5_readOne 188 = .ok (.aload_n 0, 1) := by decide +kernel
theorem dX5_readOne_189 : decode cX5_readOne 189 = .ok (.iconst 1, 1) := by decide +kernel
theorem dX5_readOne_190 : decode cX5_readOne 190 = .ok (.invokevirtual 71, 3) := by decide +kernel
theorem dX5_readOne_193 : decode cX5_readOne 193 = .ok (.ireturn, 1) := by decide +kernel
def m5_readOne : pMT := (yX5_readOne, cX5_readOne, 3, some .boolean)
theorem mo5_readOne : mOK m5_readOne 1 := ⟨tb_i 608 (by decide +kernel), wi_RX5, ⟨wn_RX5.1, wn_RX5.2, by decide +kernel⟩, by decide, plainFor_of_name wp_RX5⟩
theorem mv5_readOne : mV m5_readOne := ⟨tb_i 607 (by decide +kernel), tb_p 18 (by decide +kernel)⟩
theorem dX5_readChoice_0 : decode cX5_readChoice 0 = .ok (.aload_n 0, 1) := by decide +kernel
theorem dX5_readChoice_1 : decode cX5_readChoice 1 = .ok (.iload_n 1, 1) := by decide +kernel
theorem dX5_readChoice_2 : decode cX5_readChoice 2 = .ok (.invokevirtual 133, 3) := by decide +kernel
theorem dX5_readChoice_5 : decode cX5_readChoice 5 = .ok (.ifCond .eq 12, 3) := by decide +kernel
theorem dX5_readChoice_8 : decode cX5_readChoice 8 = .ok (.aload_n 0, 1) := by decide +kernel
theorem dX5_readChoice_9 : decode cX5_readChoice 9 = .ok (.bipush 17, 2) := by decide +kernel
theorem dX5_readChoice_11 : decode cX5_readChoice 11 = .ok (.invokevirtual 43, 3) := by decide +kernel
theorem dX5_readChoice_14 : decode cX5_readChoice 14 = .ok (.ifCond .ne 5, 3) := by decide +kernel
theorem dX5_readChoice_17 : decode cX5_readChoice 17 = .ok (.iconst 0, 1) := by decide +kernel
theorem dX5_readChoice_18 : decode cX5_readChoice 18 = .ok (.ireturn, 1) := by decide +kernel
theorem dX5_readChoice_19 : decode cX5_readChoice 19 = .ok (.aload_n 0, 1) := by decide +kernel
theorem dX5_readChoice_20 : decode cX5_readChoice 20 = .ok (.getfield 12, 3) := by decide +kernel
theorem dX5_readChoice_23 : decode cX5_readChoice 23 = .ok (.bipush 17, 2) := by decide +kernel
theorem dX5_readChoice_25 : decode cX5_readChoice 25 = .ok (.invokevirtual 105, 3) := by decide +kernel
theorem dX5_readChoice_28 : decode cX5_readChoice 28 = .ok (.istore_n 2, 1) := by decide +kernel
theorem dX5_readChoice_29 : decode cX5_readChoice 29 = .ok (.aload_n 0, 1) := by decide +kernel
theorem dX5_readChoice_30 : decode cX5_readChoice 30 = .ok (.iload_n 1, 1) := by decide +kernel
theorem dX5_readChoice_31 : decode cX5_readChoice 31 = .ok (.invokevirtual 112, 3) := by decide +kernel
theorem dX5_readChoice_34 : decode cX5_readChoice 34 = .ok (.ifCond .eq 12, 3) := by decide +kernel
theorem dX5_readChoice_37 : decode cX5_readChoice 37 = .ok (.aload_n 0, 1) := by decide +kernel
theorem dX5_readChoice_38 : decode cX5_readChoice 38 = .ok (.bipush 18, 2) := by decide +kernel
theorem dX5_readChoice_40 : decode cX5_readChoice 40 = .ok (.invokevirtual 43, 3) := by decide +kernel
theorem dX5_readChoice_43 : decode cX5_readChoice 43 = .ok (.ifCond .ne 5, 3) := by decide +kernel
theorem dX5_readChoice_46 : decode cX5_readChoice 46 = .ok (.iconst 0, 1) := by decide +kernel
theorem dX5_readChoice_47 : decode cX5_readChoice 47 = .ok (.ireturn, 1) := by decide +kernel
theorem dX5_readChoice_48 : decode cX5_readChoice 48 = .ok (.aload_n 0, 1) := by decide +kernel
theorem dX5_readChoice_49 : decode cX5_readChoice 49 = .ok (.getfield 12, 3) := by decide +kernel
theorem dX5_readChoice_52 : decode cX5_readChoice 52 = .ok (.bipush 18, 2) := by decide +kernel
theorem dX5_readChoice_54 : decode cX5_readChoice 54 = .ok (.invokevirtual 105, 3) := by decide +kernel
theorem dX5_readChoice_57 : decode cX5_readChoice 57 = .ok (.istore_n 3, 1) := by decide +kernel
theorem dX5_readChoice_58 : decode cX5_readChoice 58 = .ok (.aload_n 0, 1) := by decide +kernel
theorem dX5_readChoice_59 : decode cX5_readChoice 59 = .ok (.getfield 12, 3) := by decide +kernel
theorem dX5_readChoice_62 : decode cX5_readChoice 62 = .ok (.iload_n 2, 1) := by decide +kernel
theorem dX5_readChoice_63 : decode cX5_readChoice 63 = .ok (.invokevirtual 136, 3) := by decide +kernel
theorem dX5_readChoice_66 : decode cX5_readChoice 66 = .ok (.aload_n 0, 1) := by decide +kernel
theorem dX5_readChoice_67 : decode cX5_readChoice 67 = .ok (.iload_n 1, 1) := by decide +kernel
theorem dX5_readChoice_68 : decode cX5_readChoice 68 = .ok (.invokevirtual 112, 3) := by decide +kernel
theorem dX5_readChoice_71 : decode cX5_readChoice 71 = .ok (.ifCond .eq 12, 3) := by decide +kernel
theorem dX5_readChoice_74 : decode cX5_readChoice 74 = .ok (.aload_n 0, 1) := by decide +kernel
theorem dX5_readChoice_75 : decode cX5_readChoice 75 = .ok (.bipush 19, 2) := by decide +kernel
theorem dX5_readChoice_77 : decode cX5_readChoice 77 = .ok (.invokevirtual 43, 3) := by decide +kernel
theorem dX5_readChoice_80 : decode cX5_readChoice 80 = .ok (.ifCond .ne 5, 3) := by decide +kernel
theorem dX5_readChoice_83 : decode cX5_readChoice 83 = .ok (.iconst 0, 1) := by decide +kernel
theorem dX5_readChoice_84 : decode cX5_readChoice 84 = .ok (.ireturn, 1) := by decide +kernel
theorem dX5_readChoice_85 : decode cX5_readChoice 85 = .ok (.aload_n 0, 1) := by decide +kernel
theorem dX5_readChoice_86 : decode cX5_readChoice 86 = .ok (.getfield 12, 3) := by decide +kernel
theorem dX5_readChoice_89 : decode cX5_readChoice 89 = .ok (.iload_n 3, 1) := by decide +kernel
theorem dX5_readChoice_90 : decode cX5_readChoice 90 = .ok (.invokevirtual 136, 3) := by decide +kernel
theorem dX5_readChoice_93 : decode cX5_readChoice 93 = .ok (.iconst 1, 1) := by decide +kernel
theorem dX5_readChoice_94 : decode cX5_readChoice 94 = .ok (.ireturn, 1) := by decide +kernel
def m5_readChoice : pMT := (yX5_readChoice, cX5_readChoice, 4, some .boolean)
theorem mo5_readChoice : mOK m5_readChoice 1 := ⟨tb_i 624 (by decide +kernel), wi_RX5, ⟨wn_RX5.1, wn_RX5.2, by decide +kernel⟩, by decide, plainFor_of_name wp_RX5⟩
theorem mv5_readChoice : mV m5_readChoice := ⟨tb_i 623 (by decide +kernel), tb_p 22 (by decide +kernel)⟩
theorem dX5_readEither_0 : decode cX5_readEither 0 = .ok (.aload_n 0, 1) := by decide +kernel
theorem dX5_readEither_1 : decode cX5_readEither 1 = .ok (.iload_n 1, 1) := by decide +kernel
theorem dX5_readEither_2 : decode cX5_readEither 2 = .ok (.invokevirtual 139, 3) := by decide +kernel
theorem dX5_readEither_5 : decode cX5_readEither 5 = .ok (.ifCond .ne 5, 3) := by decide +kernel
theorem dX5_readEither_8 : decode cX5_readEither 8 = .ok (.iconst 0, 1) := by decide +kernel
theorem dX5_readEither_9 : decode cX5_readEither 9 = .ok (.ireturn, 1) := by decide +kernel
theorem dX5_readEither_10 : decode cX5_readEither 10 = .ok (.iconst 0, 1) := by decide +kernel
theorem dX5_readEither_11 : decode cX5_readEither 11 = .ok (.istore_n 2, 1) := by decide +kernel
theorem dX5_readEither_12 : decode cX5_readEither 12 = .ok (.iload_n 2, 1) := by decide +kernel
theorem dX5_readEither_13 : decode cX5_readEither 13 = .ok (.sipush 300, 3) := by decide +kernel
theorem dX5_readEither_16 : decode cX5_readEither 16 = .ok (.if_icmp .ge 48, 3) := by decide +kernel
theorem dX5_readEither_19 : decode cX5_readEither 19 = .ok (.aload_n 0, 1) := by decide +kernel
theorem dX5_readEither_20 : decode cX5_readEither 20 = .ok (.getfield 36, 3) := by decide +kernel
theorem dX5_readEither_23 : decode cX5_readEither 23 = .ok (.bipush 20, 2) := by decide +kernel
theorem dX5_readEither_25 : decode cX5_readEither 25 = .ok (.if_icmp .ne 39, 3) := by decide +kernel
theorem dX5_readEither_28 : decode cX5_readEither 28 = .ok (.aload_n 0, 1) := by decide +kernel
theorem dX5_readEither_29 : decode cX5_readEither 29 = .ok (.aload_n 0, 1) := by decide +kernel
theorem dX5_readEither_30 : decode cX5_readEither 30 = .ok (.getfield 47, 3) := by decide +kernel
theorem dX5_readEither_33 : decode cX5_readEither 33 = .ok (.iconst 1, 1) := by decide +kernel
theorem dX5_readEither_34 : decode cX5_readEither 34 = .ok (.iadd, 1) := by decide +kernel
theorem dX5_readEither_35 : decode cX5_readEither 35 = .ok (.invokevirtual 32, 3) := by decide +kernel
theorem dX5_readEither_38 : decode cX5_readEither 38 = .ok (.aload_n 0, 1) := by decide +kernel
theorem dX5_readEither_39 : decode cX5_readEither 39 = .ok (.iload_n 1, 1) := by decide +kernel
theorem dX5_readEither_40 : decode cX5_readEither 40 = .ok (.invokevirtual 139, 3) := by decide +kernel
theorem dX5_readEither_43 : decode cX5_readEither 43 = .ok (.ifCond .ne 5, 3) := by decide +kernel
theorem dX5_readEither_46 : decode cX5_readEither 46 = .ok (.iconst 0, 1) := by decide +kernel
theorem dX5_readEither_47 : decode cX5_readEither 47 = .ok (.ireturn, 1) := by decide +kernel
theorem dX5_readEither_48 : decode cX5_readEither 48 = .ok (.aload_n 0, 1) := by decide +kernel
theorem dX5_readEither_49 : decode cX5_readEither 49 = .ok (.getfield 12, 3) := by decide +kernel
theorem dX5_readEither_52 : decode cX5_readEither 52 = .ok (.bipush 20, 2) := by decide +kernel
theorem dX5_readEither_54 : decode cX5_readEither 54 = .ok (.invokevirtual 105, 3) := by decide +kernel
theorem dX5_readEither_57 : decode cX5_readEither 57 = .ok (.pop, 1) := by decide +kernel
theorem dX5_readEither_58 : decode cX5_readEither 58 = .ok (.iinc 2 1, 3) := by decide +kernel
theorem dX5_readEither_61 : decode cX5_readEither 61 = .ok (.goto (-49), 3) := by decide +kernel
theorem dX5_readEither_64 : decode cX5_readEither 64 = .ok (.iconst 1, 1) := by decide +kernel
theorem dX5_readEither_65 : decode cX5_readEither 65 = .ok (.ireturn, 1) := by decide +kernel
def m5_readEither : pMT := (yX5_readEither, cX5_readEither, 3, some .boolean)
theorem mo5_readEither : mOK m5_readEither 1 := ⟨tb_i 628 (by decide +kernel), wi_RX5, ⟨wn_RX5.1, wn_RX5.2, by decide +kernel⟩, by decide, plainFor_of_name wp_RX5⟩
theorem mv5_readEither : mV m5_readEither := ⟨tb_i 627 (by decide +kernel), tb_p 23 (by decide +kernel)⟩
theorem dX5_readBoth_0 : decode cX5_readBoth 0 = .ok (.aload_n 0, 1) := by decide +kernel
theorem dX5_readBoth_1 : decode cX5_readBoth 1 = .ok (.iload_n 1, 1) := by decide +kernel
theorem dX5_readBoth_2 : decode cX5_readBoth 2 = .ok (.invokevirtual 142, 3) := by decide +kernel
theorem dX5_readBoth_5 : decode cX5_readBoth 5 = .ok (.ifCond .ne 5, 3) := by decide +kernel
theorem dX5_readBoth_8 : decode cX5_readBoth 8 = .ok (.iconst 0, 1) := by decide +kernel
theorem dX5_readBoth_9 : decode cX5_readBoth 9 = .ok (.ireturn, 1) := by decide +kernel
theorem dX5_readBoth_10 : decode cX5_readBoth 10 = .ok (.iconst 0, 1) := by decide +kernel
theorem dX5_readBoth_11 : decode cX5_readBoth 11 = .ok (.istore_n 2, 1) := by decide +kernel
theorem dX5_readBoth_12 : decode cX5_readBoth 12 = .ok (.iload_n 2, 1) := by decide +kernel
theorem dX5_readBoth_13 : decode cX5_readBoth 13 = .ok (.sipush 300, 3) := by decide +kernel
theorem dX5_readBoth_16 : decode cX5_readBoth 16 = .ok (.if_icmp .ge 48, 3) := by decide +kernel
theorem dX5_readBoth_19 : decode cX5_readBoth 19 = .ok (.aload_n 0, 1) := by decide +kernel
theorem dX5_readBoth_20 : decode cX5_readBoth 20 = .ok (.getfield 36, 3) := by decide +kernel
theorem dX5_readBoth_23 : decode cX5_readBoth 23 = .ok (.bipush 21, 2) := by decide +kernel
theorem dX5_readBoth_25 : decode cX5_readBoth 25 = .ok (.if_icmp .ne 39, 3) := by decide +kernel
theorem dX5_readBoth_28 : decode cX5_readBoth 28 = .ok (.aload_n 0, 1) := by decide +kernel
theorem dX5_readBoth_29 : decode cX5_readBoth 29 = .ok (.aload_n 0, 1) := by decide +kernel
theorem dX5_readBoth_30 : decode cX5_readBoth 30 = .ok (.getfield 47, 3) := by decide +kernel
theorem dX5_readBoth_33 : decode cX5_readBoth 33 = .ok (.iconst 1, 1) := by decide +kernel
theorem dX5_readBoth_34 : decode cX5_readBoth 34 = .ok (.iadd, 1) := by decide +kernel
theorem dX5_readBoth_35 : decode cX5_readBoth 35 = .ok (.invokevirtual 32, 3) := by decide +kernel
theorem dX5_readBoth_38 : decode cX5_readBoth 38 = .ok (.aload_n 0, 1) := by decide +kernel
theorem dX5_readBoth_39 : decode cX5_readBoth 39 = .ok (.iload_n 1, 1) := by decide +kernel
theorem dX5_readBoth_40 : decode cX5_readBoth 40 = .ok (.invokevirtual 142, 3) := by decide +kernel
theorem dX5_readBoth_43 : decode cX5_readBoth 43 = .ok (.ifCond .ne 5, 3) := by decide +kernel
theorem dX5_readBoth_46 : decode cX5_readBoth 46 = .ok (.iconst 0, 1) := by decide +kernel
theorem dX5_readBoth_47 : decode cX5_readBoth 47 = .ok (.ireturn, 1) := by decide +kernel
theorem dX5_readBoth_48 : decode cX5_readBoth 48 = .ok (.aload_n 0, 1) := by decide +kernel
theorem dX5_readBoth_49 : decode cX5_readBoth 49 = .ok (.getfield 12, 3) := by decide +kernel
theorem dX5_readBoth_52 : decode cX5_readBoth 52 = .ok (.bipush 21, 2) := by decide +kernel
theorem dX5_readBoth_54 : decode cX5_readBoth 54 = .ok (.invokevirtual 105, 3) := by decide +kernel
theorem dX5_readBoth_57 : decode cX5_readBoth 57 = .ok (.pop, 1) := by decide +kernel
theorem dX5_readBoth_58 : decode cX5_readBoth 58 = .ok (.iinc 2 1, 3) := by decide +kernel
theorem dX5_readBoth_61 : decode cX5_readBoth 61 = .ok (.goto (-49), 3) := by decide +kernel
theorem dX5_readBoth_64 : decode cX5_readBoth 64 = .ok (.iconst 1, 1) := by decide +kernel
theorem dX5_readBoth_65 : decode cX5_readBoth 65 = .ok (.ireturn, 1) := by decide +kernel
def m5_readBoth : pMT := (yX5_readBoth, cX5_readBoth, 3, some .boolean)
theorem mo5_readBoth : mOK m5_readBoth 1 := ⟨tb_i 632 (by decide +kernel), wi_RX5, ⟨wn_RX5.1, wn_RX5.2, by decide +kernel⟩, by decide, plainFor_of_name wp_RX5⟩
theorem mv5_readBoth : mV m5_readBoth := ⟨tb_i 631 (by decide +kernel), tb_p 24 (by decide +kernel)⟩
theorem dX5_readAsk_0 : decode cX5_readAsk 0 = .ok (.aload_n 0, 1) := by decide +kernel
theorem dX5_readAsk_1 : decode cX5_readAsk 1 = .ok (.getfield 36, 3) := by decide +kernel
theorem dX5_readAsk_4 : decode cX5_readAsk 4 = .ok (.bipush 22, 2) := by decide +kernel
theorem dX5_readAsk_6 : decode cX5_readAsk 6 = .ok (.if_icmp .ne 35, 3) := by decide +kernel
theorem dX5_readAsk_9 : decode cX5_readAsk 9 = .ok (.aload_n 0, 1) := by decide +kernel
theorem dX5_readAsk_10 : decode cX5_readAsk 10 = .ok (.iload_n 1, 1) := by decide +kernel
theorem dX5_readAsk_11 : decode cX5_readAsk 11 = .ok (.invokevirtual 127, 3) := by decide +kernel
theorem dX5_readAsk_14 : decode cX5_readAsk 14 = .ok (.ifCond .eq 13, 3) := by decide +kernel
theorem dX5_readAsk_17 : decode cX5_readAsk 17 = .ok (.aload_n 0, 1) := by decide +kernel
theorem dX5_readAsk_18 : decode cX5_readAsk 18 = .ok (.iload_n 1, 1) := by decide +kernel
theorem dX5_readAsk_19 : decode cX5_readAsk 19 = .ok (.iconst 1, 1) := by decide +kernel
theorem dX5_readAsk_20 : decode cX5_readAsk 20 = .ok (.iadd, 1) := by decide +kernel
theorem dX5_readAsk_21 : decode cX5_readAsk 21 = .ok (.invokevirtual 142, 3) := by decide +kernel
theorem dX5_readAsk_24 : decode cX5_readAsk 24 = .ok (.ifCond .ne 5, 3) := by decide +kernel
theorem dX5_readAsk_27 : decode cX5_readAsk 27 = .ok (.iconst 0, 1) := by decide +kernel
theorem dX5_readAsk_28 : decode cX5_readAsk 28 = .ok (.ireturn, 1) := by decide +kernel
theorem dX5_readAsk_29 : decode cX5_readAsk 29 = .ok (.aload_n 0, 1) := by decide +kernel
theorem dX5_readAsk_30 : decode cX5_readAsk 30 = .ok (.getfield 12, 3) := by decide +kernel
theorem dX5_readAsk_33 : decode cX5_readAsk 33 = .ok (.bipush 22, 2) := by decide +kernel
theorem dX5_readAsk_35 : decode cX5_readAsk 35 = .ok (.invokevirtual 105, 3) := by decide +kernel
theorem dX5_readAsk_38 : decode cX5_readAsk 38 = .ok (.pop, 1) := by decide +kernel
theorem dX5_readAsk_39 : decode cX5_readAsk 39 = .ok (.iconst 1, 1) := by decide +kernel
theorem dX5_readAsk_40 : decode cX5_readAsk 40 = .ok (.ireturn, 1) := by decide +kernel
theorem dX5_readAsk_41 : decode cX5_readAsk 41 = .ok (.aload_n 0, 1) := by decide +kernel
theorem dX5_readAsk_42 : decode cX5_readAsk 42 = .ok (.iload_n 1, 1) := by decide +kernel
theorem dX5_readAsk_43 : decode cX5_readAsk 43 = .ok (.invokevirtual 112, 3) := by decide +kernel
theorem dX5_readAsk_46 : decode cX5_readAsk 46 = .ok (.ifCond .ne 5, 3) := by decide +kernel
theorem dX5_readAsk_49 : decode cX5_readAsk 49 = .ok (.iconst 0, 1) := by decide +kernel
theorem dX5_readAsk_50 : decode cX5_readAsk 50 = .ok (.ireturn, 1) := by decide +kernel
theorem dX5_readAsk_51 : decode cX5_readAsk 51 = .ok (.aload_n 0, 1) := by decide +kernel
theorem dX5_readAsk_52 : decode cX5_readAsk 52 = .ok (.getfield 36, 3) := by decide +kernel
theorem dX5_readAsk_55 : decode cX5_readAsk 55 = .ok (.istore_n 2, 1) := by decide +kernel
theorem dX5_readAsk_56 : decode cX5_readAsk 56 = .ok (.iload_n 2, 1) := by decide +kernel
theorem dX5_readAsk_57 : decode cX5_readAsk 57 = .ok (.invokestatic 145, 3) := by decide +kernel
theorem dX5_readAsk_60 : decode cX5_readAsk 60 = .ok (.ifCond .ne 9, 3) := by decide +kernel
theorem dX5_readAsk_63 : decode cX5_readAsk 63 = .ok (.aload_n 0, 1) := by decide +kernel
theorem dX5_readAsk_64 : decode cX5_readAsk 64 = .ok (.iconst 1, 1) := by decide +kernel
theorem dX5_readAsk_65 : decode cX5_readAsk 65 = .ok (.invokevirtual 71, 3) := by decide +kernel
theorem dX5_readAsk_68 : decode cX5_readAsk 68 = .ok (.ireturn, 1) := by decide +kernel
theorem dX5_readAsk_69 : decode cX5_readAsk 69 = .ok (.aload_n 0, 1) := by decide +kernel
theorem dX5_readAsk_70 : decode cX5_readAsk 70 = .ok (.aload_n 0, 1) := by decide +kernel
theorem dX5_readAsk_71 : decode cX5_readAsk 71 = .ok (.getfield 47, 3) := by decide +kernel
theorem dX5_readAsk_74 : decode cX5_readAsk 74 = .ok (.iconst 1, 1) := by decide +kernel
theorem dX5_readAsk_75 : decode cX5_readAsk 75 = .ok (.iadd, 1) := by decide +kernel
theorem dX5_readAsk_76 : decode cX5_readAsk 76 = .ok (.invokevirtual 32, 3) := by decide +kernel
theorem dX5_readAsk_79 : decode cX5_readAsk 79 = .ok (.aload_n 0, 1) := by decide +kernel
theorem dX5_readAsk_80 : decode cX5_readAsk 80 = .ok (.iload_n 1, 1) := by decide +kernel
theorem dX5_readAsk_81 : decode cX5_readAsk 81 = .ok (.invokevirtual 112, 3) := by decide +kernel
theorem dX5_readAsk_84 : decode cX5_readAsk 84 = .ok (.ifCond .ne 5, 3) := by decide +kernel
theorem dX5_readAsk_87 : decode cX5_readAsk 87 = .ok (.iconst 0, 1) := by decide +kernel
theorem dX5_readAsk_88 : decode cX5_readAsk 88 = .ok (.ireturn, 1) := by decide +kernel
theorem dX5_readAsk_89 : decode cX5_readAsk 89 = .ok (.aload_n 0, 1) := by decide +kernel
theorem dX5_readAsk_90 : decode cX5_readAsk 90 = .ok (.getfield 12, 3) := by decide +kernel
theorem dX5_readAsk_93 : decode cX5_readAsk 93 = .ok (.iload_n 2, 1) := by decide +kernel
theorem dX5_readAsk_94 : decode cX5_readAsk 94 = .ok (.invokevirtual 105, 3) := by decide +kernel
theorem dX5_readAsk_97 : decode cX5_readAsk 97 = .ok (.pop, 1) := by decide +kernel
theorem dX5_readAsk_98 : decode cX5_readAsk 98 = .ok (.iconst 1, 1) := by decide +kernel
theorem dX5_readAsk_99 : decode cX5_readAsk 99 = .ok (.ireturn, 1) := by decide +kernel
def m5_readAsk : pMT := (yX5_readAsk, cX5_readAsk, 3, some .boolean)
theorem mo5_readAsk : mOK m5_readAsk 1 := ⟨tb_i 636 (by decide +kernel), wi_RX5, ⟨wn_RX5.1, wn_RX5.2, by decide +kernel⟩, by decide, plainFor_of_name wp_RX5⟩
theorem mv5_readAsk : mV m5_readAsk := ⟨tb_i 635 (by decide +kernel), tb_p 25 (by decide +kernel)⟩
def mt5 (t : Nat) : pMT := match t with
  | 0 => m5_readSum
  | 1 => m5_readProduct
  | 2 => m5_readOne
  | 3 => m5_readChoice
  | 4 => m5_readEither
  | 5 => m5_readBoth
  | 6 => m5_readAsk
  | _ => m5_readSum
def f5_readSum_c37 (n : Nat) (O : (Nat → Nat → Option Nat)) (rec : Nat → (Nat → Nat → Int32) → Nat → Int32 → Option (Int32 × (Nat → Nat → Int32))) (k12 : ((Nat → Nat → Int32) → Nat → Int32 → Int32 → Option (Int32 × (Nat → Nat → Int32)))) (I : (Nat → Nat → Int32)) (b0 : Nat) (y1 : Int32) (y2 : Int32) : Option (Int32 × (Nat → Nat → Int32)) := (f5_comeTo I O b0 ((I b0 2) + 1)).bind fun r1 => (rec 1 r1 b0 y1).bind fun r3 => (if r3.1 = 0 then some ((0 : Int32), r3.2) else (f7_add r3.2 O (rO O b0 1) (I b0 3)).bind fun r7 => k12 r7.2 b0 y1 (y2 + 1))
set_option maxHeartbeats 4000000 in
set_option maxRecDepth 20000 in
theorem o5_readSum_c37 {g : pG} {Qx : Option Value → pW → Prop} {Z : pZ} {L : (Nat → Nat → Int64)} {O : (Nat → Nat → Option Nat)} {n : Nat} {rec : Nat → (Nat → Nat → Int32) → Nat → Int32 → Option (Int32 × (Nat → Nat → Int32))} {k12 : ((Nat → Nat → Int32) → Nat → Int32 → Int32 → Option (Int32 × (Nat → Nat → Int32)))} {res : Int32 × (Nat → Nat → Int32)} (d : Nat) (r : Nat) (hrec : ∀ (t : Nat) (I : (Nat → Nat → Int32)) (a0 : Nat) (x1 : Int32) (res : Int32 × (Nat → Nat → Int32)) (Q : Option Value → pW → Prop), (Z[a0]? = some (5, 8)) → rec t I a0 x1 = some res → Q (some (.int res.1)) (Z, res.2, L, O) → CT g (d + 4 + r) (mt5 t) 0 0 [.ref a0, .int x1] (Z, I, L, O) Q) (hW : WT Z O) (hQ : (res.1 = 0 ∨ res.1 = 1) → Qx (some (.int res.1)) (Z, res.2, L, O)) (hk12 : ∀ (I : (Nat → Nat → Int32)) (b0 : Nat) (y1 : Int32) (y2 : Int32), (Z[b0]? = some (5, 8)) → k12 I b0 y1 y2 = some res → Ok g (d + 4 + r + 1, RX5, cX5_readSum, 4, false, 0, 0, Z.length, pSl Z) Qx 12 [(0, .ref b0), (1, .int y1), (2, .int y2)] [] (Z, I, L, O)) (I : (Nat → Nat → Int32)) (b0 : Nat) (y1 : Int32) (y2 : Int32) (hZ_b0 : Z[b0]? = some (5, 8)) (h : f5_readSum_c37 n O rec k12 I b0 y1 y2 = some res) : Ok g (d + 4 + r + 1, RX5, cX5_readSum, 4, false, 0, 0, Z.length, pSl Z) Qx 37 [(0, .ref b0), (1, .int y1), (2, .int y2)] [] (Z, I, L, O) := by
  unfold f5_readSum_c37 at h
  refine ok_aload_n dX5_readSum_37 0 rfl ?_
  refine ok_getI (ci := 5) (k := 3) dX5_readSum_38 flRX5_36 rfl hZ_b0 (by decide) ?_
  refine ok_istore_n (l' := [(3, .int (I b0 3)), (0, .ref b0), (1, .int y1), (2, .int y2)]) dX5_readSum_41 rfl (Nat.le_of_ble_eq_true rfl) rfl ?_
  refine ok_aload_n dX5_readSum_42 1 rfl ?_
  refine ok_aload_n dX5_readSum_43 1 rfl ?_
  refine ok_getI (ci := 5) (k := 2) dX5_readSum_44 flRX5_47 rfl hZ_b0 (by decide) ?_
  refine ok_iconst (v := 1) dX5_readSum_47 (by decide) ?_
  refine ok_iadd dX5_readSum_48 ?_
  obtain ⟨r1, hr2, h⟩ := bd h
  refine ok_callV (d := ((d + 2 + r) + 2)) (mt := m5_comeTo) (mc := 0) (ms := 0) (As := [.int ((I b0 2) + 1)]) (r := []) dX5_readSum_49 mo5_comeTo mv5_comeTo lkRX5_32 rfl hZ_b0 (q := (RX5, TX5, 8)) rfl rfl rfl (Nat.le_of_ble_eq_true rfl) (by show _ + 1 ≤ d + _ + r + 1; omega) (Nat.le_refl _) (Nat.le_refl _) (pRt_mono ?_)
  refine k5_comeTo (d + 2 + r) hW hZ_b0 hr2 ?_
  intro _
  show Ok g _ Qx 52 [(3, .int (I b0 3)), (0, .ref b0), (1, .int y1), (2, .int y2)] [] (Z, r1, L, O)
  refine ok_aload_n dX5_readSum_52 1 rfl ?_
  refine ok_iload_n dX5_readSum_53 2 rfl ?_
  obtain ⟨r3, hr4, h⟩ := bd h
  refine ok_callV (d := (d + 4 + r)) (mt := m5_readProduct) (mc := 0) (ms := 0) (As := [.int y1]) (r := []) dX5_readSum_54 mo5_readProduct mv5_readProduct lkRX5_115 rfl hZ_b0 (q := (RX5, TX5, 8)) rfl rfl rfl (Nat.le_of_ble_eq_true rfl) (by show _ + 1 ≤ d + _ + r + 1; omega) (Nat.le_refl _) (Nat.le_refl _) (pRt_mono ?_)
  refine hrec 1 r1 _ _ _ _ hZ_b0 hr4 ?_
  intro hbr3
  show Ok g _ Qx 57 [(3, .int (I b0 3)), (0, .ref b0), (1, .int y1), (2, .int y2)] [.int r3.1] (Z, r3.2, L, O)
  refine ok_if_ne (t := 62) dX5_readSum_57 (by decide) (fun hc5 => ?_) (fun hc5 => ?_)
  · have h := (if_neg hc5).symm.trans h
    refine ok_aload_n dX5_readSum_62 1 rfl ?_
    have hT6 : Z[(rO O b0 1)]? = some (7, 7) := (wt_f (ci := 5) (k := 1) hW hZ_b0 rfl).2
    refine ok_getR (ci := 5) (k := 1) dX5_readSum_63 flRX5_12 rfl hW hZ_b0 (by decide) ?_
    refine ok_iload_n dX5_readSum_66 0 rfl ?_
    obtain ⟨r7, hr8, h⟩ := bd h
    refine ok_callV (d := ((d + 2 + r) + 2)) (mt := m7_add) (mc := 0) (ms := 0) (As := [.int (I b0 3)]) (r := []) dX5_readSum_67 mo7_add mv7_add lkRX5_105 rfl hT6 (q := (RX7, TX7, 7)) rfl rfl rfl (Nat.le_of_ble_eq_true rfl) (by show _ + 1 ≤ d + _ + r + 1; omega) (Nat.le_refl _) (Nat.le_refl _) (pRt_mono ?_)
    refine k7_add (d + 2 + r) hW hT6 hr8 ?_
    intro _
    show Ok g _ Qx 70 [(3, .int (I b0 3)), (0, .ref b0), (1, .int y1), (2, .int y2)] [.int r7.1] (Z, r7.2, L, O)
    refine ok_pop dX5_readSum_70 rfl ?_
    refine ok_iinc (u := (y2 + 1)) (l' := [(2, .int (y2 + 1)), (3, .int (I b0 3)), (0, .ref b0), (1, .int y1)]) dX5_readSum_71 3 rfl rfl (Nat.le_of_ble_eq_true rfl) rfl ?_
    refine ok_goto (t := 12) dX5_readSum_74 (by decide) ?_
    refine ok_sub [2, 3, 0] rfl ?_
    exact hk12 r7.2 b0 y1 (y2 + 1) hZ_b0 h
  · have h := (if_pos hc5).symm.trans h
    refine ok_iconst (v := 0) dX5_readSum_60 (by decide) ?_
    cases h
    exact ok_iret dX5_readSum_61 (hQ (Or.inl rfl))
def f5_readSum_c12 (n : Nat) (O : (Nat → Nat → Option Nat)) (rec : Nat → (Nat → Nat → Int32) → Nat → Int32 → Option (Int32 × (Nat → Nat → Int32))) : Nat → (Nat → Nat → Int32) → Nat → Int32 → Int32 → Option (Int32 × (Nat → Nat → Int32))
  | 0, _, _, _, _ => none
  | m + 1, I, b0, y1, y2 => (if (300 : Int32) ≤ y2 then some ((1 : Int32), I) else (if (I b0 3) = (43 : Int32) then f5_readSum_c37 n O rec (f5_readSum_c12 n O rec m) I b0 y1 y2 else (if (I b0 3) = (45 : Int32) then f5_readSum_c37 n O rec (f5_readSum_c12 n O rec m) I b0 y1 y2 else some ((1 : Int32), I))))
set_option maxHeartbeats 4000000 in
set_option maxRecDepth 20000 in
theorem o5_readSum_c12 {g : pG} {Qx : Option Value → pW → Prop} {Z : pZ} {L : (Nat → Nat → Int64)} {O : (Nat → Nat → Option Nat)} {n : Nat} {rec : Nat → (Nat → Nat → Int32) → Nat → Int32 → Option (Int32 × (Nat → Nat → Int32))} {res : Int32 × (Nat → Nat → Int32)} (d : Nat) (r : Nat) (hrec : ∀ (t : Nat) (I : (Nat → Nat → Int32)) (a0 : Nat) (x1 : Int32) (res : Int32 × (Nat → Nat → Int32)) (Q : Option Value → pW → Prop), (Z[a0]? = some (5, 8)) → rec t I a0 x1 = some res → Q (some (.int res.1)) (Z, res.2, L, O) → CT g (d + 4 + r) (mt5 t) 0 0 [.ref a0, .int x1] (Z, I, L, O) Q) (hW : WT Z O) (hQ : (res.1 = 0 ∨ res.1 = 1) → Qx (some (.int res.1)) (Z, res.2, L, O)) : ∀ (m : Nat) (I : (Nat → Nat → Int32)) (b0 : Nat) (y1 : Int32) (y2 : Int32), (Z[b0]? = some (5, 8)) → f5_readSum_c12 n O rec m I b0 y1 y2 = some res → Ok g (d + 4 + r + 1, RX5, cX5_readSum, 4, false, 0, 0, Z.length, pSl Z) Qx 12 [(0, .ref b0), (1, .int y1), (2, .int y2)] [] (Z, I, L, O) := by
  intro m
  induction m with
  | zero => intro I b0 y1 y2 hZ_b0 h; rw [f5_readSum_c12] at h; cases h
  | succ m ih =>
    intro I b0 y1 y2 hZ_b0 h
    rw [f5_readSum_c12] at h
    refine ok_iload_n dX5_readSum_12 2 rfl ?_
    refine ok_sipush (v := 300) dX5_readSum_13 (by decide) ?_
    refine ok_icmp_ge (t := 77) dX5_readSum_16 (by decide) (fun hc1 => ?_) (fun hc1 => ?_)
    · have h := (if_pos hc1).symm.trans h
      refine ok_iconst (v := 1) dX5_readSum_77 (by decide) ?_
      cases h
      exact ok_iret dX5_readSum_78 (hQ (Or.inr rfl))
    · have h := (if_neg hc1).symm.trans h
      refine ok_aload_n dX5_readSum_19 0 rfl ?_
      refine ok_getI (ci := 5) (k := 3) dX5_readSum_20 flRX5_36 rfl hZ_b0 (by decide) ?_
      refine ok_bipush (v := 43) dX5_readSum_23 (by decide) ?_
      refine ok_icmp_eq (t := 37) dX5_readSum_25 (by decide) (fun hc2 => ?_) (fun hc2 => ?_)
      · have h := (if_pos hc2).symm.trans h
        refine ok_sub [0, 1, 2] rfl ?_
        exact o5_readSum_c37 d r hrec hW hQ ih I b0 y1 y2 hZ_b0 h
      · have h := (if_neg hc2).symm.trans h
        refine ok_aload_n dX5_readSum_28 0 rfl ?_
        refine ok_getI (ci := 5) (k := 3) dX5_readSum_29 flRX5_36 rfl hZ_b0 (by decide) ?_
        refine ok_bipush (v := 45) dX5_readSum_32 (by decide) ?_
        refine ok_icmp_ne (t := 77) dX5_readSum_34 (by decide) (fun hc3 => ?_) (fun hc3 => ?_)
        · have h := (if_neg hc3).symm.trans h
          refine ok_iconst (v := 1) dX5_readSum_77 (by decide) ?_
          cases h
          exact ok_iret dX5_readSum_78 (hQ (Or.inr rfl))
        · have h := (if_pos hc3).symm.trans h
          refine ok_sub [0, 1, 2] rfl ?_
          exact o5_readSum_c37 d r hrec hW hQ ih I b0 y1 y2 hZ_b0 h
def f5_readSum_b (n : Nat) (I : (Nat → Nat → Int32)) (O : (Nat → Nat → Option Nat)) (rec : Nat → (Nat → Nat → Int32) → Nat → Int32 → Option (Int32 × (Nat → Nat → Int32))) (a0 : Nat) (x1 : Int32) : Option (Int32 × (Nat → Nat → Int32)) := (rec 1 I a0 x1).bind fun r1 => (if r1.1 = 0 then some ((0 : Int32), r1.2) else f5_readSum_c12 n O rec n r1.2 a0 x1 (0 : Int32))
set_option maxHeartbeats 4000000 in
set_option maxRecDepth 20000 in
theorem o5_readSum {g : pG} {Qx : Option Value → pW → Prop} {Z : pZ} {I : (Nat → Nat → Int32)} {L : (Nat → Nat → Int64)} {O : (Nat → Nat → Option Nat)} {n : Nat} {rec : Nat → (Nat → Nat → Int32) → Nat → Int32 → Option (Int32 × (Nat → Nat → Int32))} {a0 : Nat} {x1 : Int32} {res : Int32 × (Nat → Nat → Int32)} (d : Nat) (r : Nat) (hrec : ∀ (t : Nat) (I : (Nat → Nat → Int32)) (a0 : Nat) (x1 : Int32) (res : Int32 × (Nat → Nat → Int32)) (Q : Option Value → pW → Prop), (Z[a0]? = some (5, 8)) → rec t I a0 x1 = some res → Q (some (.int res.1)) (Z, res.2, L, O) → CT g (d + 4 + r) (mt5 t) 0 0 [.ref a0, .int x1] (Z, I, L, O) Q) (hW : WT Z O) (hZ0 : Z[a0]? = some (5, 8)) (h : f5_readSum_b n I O rec a0 x1 = some res) (hQ : (res.1 = 0 ∨ res.1 = 1) → Qx (some (.int res.1)) (Z, res.2, L, O)) : Ok g (d + 4 + r + 1, RX5, cX5_readSum, 4, false, 0, 0, Z.length, pSl Z) Qx 0 [(0, .ref a0), (1, .int x1)] [] (Z, I, L, O) := by
  unfold f5_readSum_b at h
  refine ok_aload_n dX5_readSum_0 0 rfl ?_
  refine ok_iload_n dX5_readSum_1 1 rfl ?_
  obtain ⟨r1, hr2, h⟩ := bd h
  refine ok_callV (d := (d + 4 + r)) (mt := m5_readProduct) (mc := 0) (ms := 0) (As := [.int x1]) (r := []) dX5_readSum_2 mo5_readProduct mv5_readProduct lkRX5_115 rfl hZ0 (q := (RX5, TX5, 8)) rfl rfl rfl (Nat.le_of_ble_eq_true rfl) (by show _ + 1 ≤ d + _ + r + 1; omega) (Nat.le_refl _) (Nat.le_refl _) (pRt_mono ?_)
  refine hrec 1 I _ _ _ _ hZ0 hr2 ?_
  intro hbr1
  show Ok g _ Qx 5 [(0, .ref a0), (1, .int x1)] [.int r1.1] (Z, r1.2, L, O)
  refine ok_if_ne (t := 10) dX5_readSum_5 (by decide) (fun hc3 => ?_) (fun hc3 => ?_)
  · have h := (if_neg hc3).symm.trans h
    refine ok_iconst (v := 0) dX5_readSum_10 (by decide) ?_
    refine ok_istore_n (l' := [(2, .int 0), (0, .ref a0), (1, .int x1)]) dX5_readSum_11 rfl (Nat.le_of_ble_eq_true rfl) rfl ?_
    refine ok_sub [1, 2, 0] rfl ?_
    exact o5_readSum_c12 d r hrec hW hQ  n r1.2 a0 x1 (0 : Int32) hZ0 h
  · have h := (if_pos hc3).symm.trans h
    refine ok_iconst (v := 0) dX5_readSum_8 (by decide) ?_
    cases h
    exact ok_iret dX5_readSum_9 (hQ (Or.inl rfl))
def f5_readProduct_c37 (n : Nat) (O : (Nat → Nat → Option Nat)) (rec : Nat → (Nat → Nat → Int32) → Nat → Int32 → Option (Int32 × (Nat → Nat → Int32))) (k12 : ((Nat → Nat → Int32) → Nat → Int32 → Int32 → Option (Int32 × (Nat → Nat → Int32)))) (I : (Nat → Nat → Int32)) (b0 : Nat) (y1 : Int32) (y2 : Int32) : Option (Int32 × (Nat → Nat → Int32)) := (f5_comeTo I O b0 ((I b0 2) + 1)).bind fun r1 => (rec 2 r1 b0 y1).bind fun r3 => (if r3.1 = 0 then some ((0 : Int32), r3.2) else (f7_add r3.2 O (rO O b0 1) (I b0 3)).bind fun r7 => k12 r7.2 b0 y1 (y2 + 1))
set_option maxHeartbeats 4000000 in
set_option maxRecDepth 20000 in
theorem o5_readProduct_c37 {g : pG} {Qx : Option Value → pW → Prop} {Z : pZ} {L : (Nat → Nat → Int64)} {O : (Nat → Nat → Option Nat)} {n : Nat} {rec : Nat → (Nat → Nat → Int32) → Nat → Int32 → Option (Int32 × (Nat → Nat → Int32))} {k12 : ((Nat → Nat → Int32) → Nat → Int32 → Int32 → Option (Int32 × (Nat → Nat → Int32)))} {res : Int32 × (Nat → Nat → Int32)} (d : Nat) (r : Nat) (hrec : ∀ (t : Nat) (I : (Nat → Nat → Int32)) (a0 : Nat) (x1 : Int32) (res : Int32 × (Nat → Nat → Int32)) (Q : Option Value → pW → Prop), (Z[a0]? = some (5, 8)) → rec t I a0 x1 = some res → Q (some (.int res.1)) (Z, res.2, L, O) → CT g (d + 4 + r) (mt5 t) 0 0 [.ref a0, .int x1] (Z, I, L, O) Q) (hW : WT Z O) (hQ : (res.1 = 0 ∨ res.1 = 1) → Qx (some (.int res.1)) (Z, res.2, L, O)) (hk12 : ∀ (I : (Nat → Nat → Int32)) (b0 : Nat) (y1 : Int32) (y2 : Int32), (Z[b0]? = some (5, 8)) → k12 I b0 y1 y2 = some res → Ok g (d + 4 + r + 1, RX5, cX5_readProduct, 4, false, 0, 0, Z.length, pSl Z) Qx 12 [(0, .ref b0), (1, .int y1), (2, .int y2)] [] (Z, I, L, O)) (I : (Nat → Nat → Int32)) (b0 : Nat) (y1 : Int32) (y2 : Int32) (hZ_b0 : Z[b0]? = some (5, 8)) (h : f5_readProduct_c37 n O rec k12 I b0 y1 y2 = some res) : Ok g (d + 4 + r + 1, RX5, cX5_readProduct, 4, false, 0, 0, Z.length, pSl Z) Qx 37 [(0, .ref b0), (1, .int y1), (2, .int y2)] [] (Z, I, L, O) := by
  unfold f5_readProduct_c37 at h
  refine ok_aload_n dX5_readProduct_37 0 rfl ?_
  refine ok_getI (ci := 5) (k := 3) dX5_readProduct_38 flRX5_36 rfl hZ_b0 (by decide) ?_
  refine ok_istore_n (l' := [(3, .int (I b0 3)), (0, .ref b0), (1, .int y1), (2, .int y2)]) dX5_readProduct_41 rfl (Nat.le_of_ble_eq_true rfl) rfl ?_
  refine ok_aload_n dX5_readProduct_42 1 rfl ?_
  refine ok_aload_n dX5_readProduct_43 1 rfl ?_
  refine ok_getI (ci := 5) (k := 2) dX5_readProduct_44 flRX5_47 rfl hZ_b0 (by decide) ?_
  refine ok_iconst (v := 1) dX5_readProduct_47 (by decide) ?_
  refine ok_iadd dX5_readProduct_48 ?_
  obtain ⟨r1, hr2, h⟩ := bd h
  refine ok_callV (d := ((d + 2 + r) + 2)) (mt := m5_comeTo) (mc := 0) (ms := 0) (As := [.int ((I b0 2) + 1)]) (r := []) dX5_readProduct_49 mo5_comeTo mv5_comeTo lkRX5_32 rfl hZ_b0 (q := (RX5, TX5, 8)) rfl rfl rfl (Nat.le_of_ble_eq_true rfl) (by show _ + 1 ≤ d + _ + r + 1; omega) (Nat.le_refl _) (Nat.le_refl _) (pRt_mono ?_)
  refine k5_comeTo (d + 2 + r) hW hZ_b0 hr2 ?_
  intro _
  show Ok g _ Qx 52 [(3, .int (I b0 3)), (0, .ref b0), (1, .int y1), (2, .int y2)] [] (Z, r1, L, O)
  refine ok_aload_n dX5_readProduct_52 1 rfl ?_
  refine ok_iload_n dX5_readProduct_53 2 rfl ?_
  obtain ⟨r3, hr4, h⟩ := bd h
  refine ok_callV (d := (d + 4 + r)) (mt := m5_readOne) (mc := 0) (ms := 0) (As := [.int y1]) (r := []) dX5_readProduct_54 mo5_readOne mv5_readOne lkRX5_118 rfl hZ_b0 (q := (RX5, TX5, 8)) rfl rfl rfl (Nat.le_of_ble_eq_true rfl) (by show _ + 1 ≤ d + _ + r + 1; omega) (Nat.le_refl _) (Nat.le_refl _) (pRt_mono ?_)
  refine hrec 2 r1 _ _ _ _ hZ_b0 hr4 ?_
  intro hbr3
  show Ok g _ Qx 57 [(3, .int (I b0 3)), (0, .ref b0), (1, .int y1), (2, .int y2)] [.int r3.1] (Z, r3.2, L, O)
  refine ok_if_ne (t := 62) dX5_readProduct_57 (by decide) (fun hc5 => ?_) (fun hc5 => ?_)
  · have h := (if_neg hc5).symm.trans h
    refine ok_aload_n dX5_readProduct_62 1 rfl ?_
    have hT6 : Z[(rO O b0 1)]? = some (7, 7) := (wt_f (ci := 5) (k := 1) hW hZ_b0 rfl).2
    refine ok_getR (ci := 5) (k := 1) dX5_readProduct_63 flRX5_12 rfl hW hZ_b0 (by decide) ?_
    refine ok_iload_n dX5_readProduct_66 0 rfl ?_
    obtain ⟨r7, hr8, h⟩ := bd h
    refine ok_callV (d := ((d + 2 + r) + 2)) (mt := m7_add) (mc := 0) (ms := 0) (As := [.int (I b0 3)]) (r := []) dX5_readProduct_67 mo7_add mv7_add lkRX5_105 rfl hT6 (q := (RX7, TX7, 7)) rfl rfl rfl (Nat.le_of_ble_eq_true rfl) (by show _ + 1 ≤ d + _ + r + 1; omega) (Nat.le_refl _) (Nat.le_refl _) (pRt_mono ?_)
    refine k7_add (d + 2 + r) hW hT6 hr8 ?_
    intro _
    show Ok g _ Qx 70 [(3, .int (I b0 3)), (0, .ref b0), (1, .int y1), (2, .int y2)] [.int r7.1] (Z, r7.2, L, O)
    refine ok_pop dX5_readProduct_70 rfl ?_
    refine ok_iinc (u := (y2 + 1)) (l' := [(2, .int (y2 + 1)), (3, .int (I b0 3)), (0, .ref b0), (1, .int y1)]) dX5_readProduct_71 3 rfl rfl (Nat.le_of_ble_eq_true rfl) rfl ?_
    refine ok_goto (t := 12) dX5_readProduct_74 (by decide) ?_
    refine ok_sub [2, 3, 0] rfl ?_
    exact hk12 r7.2 b0 y1 (y2 + 1) hZ_b0 h
  · have h := (if_pos hc5).symm.trans h
    refine ok_iconst (v := 0) dX5_readProduct_60 (by decide) ?_
    cases h
    exact ok_iret dX5_readProduct_61 (hQ (Or.inl rfl))
def f5_readProduct_c12 (n : Nat) (O : (Nat → Nat → Option Nat)) (rec : Nat → (Nat → Nat → Int32) → Nat → Int32 → Option (Int32 × (Nat → Nat → Int32))) : Nat → (Nat → Nat → Int32) → Nat → Int32 → Int32 → Option (Int32 × (Nat → Nat → Int32))
  | 0, _, _, _, _ => none
  | m + 1, I, b0, y1, y2 => (if (300 : Int32) ≤ y2 then some ((1 : Int32), I) else (if (I b0 3) = (42 : Int32) then f5_readProduct_c37 n O rec (f5_readProduct_c12 n O rec m) I b0 y1 y2 else (if (I b0 3) = (47 : Int32) then f5_readProduct_c37 n O rec (f5_readProduct_c12 n O rec m) I b0 y1 y2 else some ((1 : Int32), I))))
set_option maxHeartbeats 4000000 in
set_option maxRecDepth 20000 in
theorem o5_readProduct_c12 {g : pG} {Qx : Option Value → pW → Prop} {Z : pZ} {L : (Nat → Nat → Int64)} {O : (Nat → Nat → Option Nat)} {n : Nat} {rec : Nat → (Nat → Nat → Int32) → Nat → Int32 → Option (Int32 × (Nat → Nat → Int32))} {res : Int32 × (Nat → Nat → Int32)} (d : Nat) (r : Nat) (hrec : ∀ (t : Nat) (I : (Nat → Nat → Int32)) (a0 : Nat) (x1 : Int32) (res : Int32 × (Nat → Nat → Int32)) (Q : Option Value → pW → Prop), (Z[a0]? = some (5, 8)) → rec t I a0 x1 = some res → Q (some (.int res.1)) (Z, res.2, L, O) → CT g (d + 4 + r) (mt5 t) 0 0 [.ref a0, .int x1] (Z, I, L, O) Q) (hW : WT Z O) (hQ : (res.1 = 0 ∨ res.1 = 1) → Qx (some (.int res.1)) (Z, res.2, L, O)) : ∀ (m : Nat) (I : (Nat → Nat → Int32)) (b0 : Nat) (y1 : Int32) (y2 : Int32), (Z[b0]? = some (5, 8)) → f5_readProduct_c12 n O rec m I b0 y1 y2 = some res → Ok g (d + 4 + r + 1, RX5, cX5_readProduct, 4, false, 0, 0, Z.length, pSl Z) Qx 12 [(0, .ref b0), (1, .int y1), (2, .int y2)] [] (Z, I, L, O) := by
  intro m
  induction m with
  | zero => intro I b0 y1 y2 hZ_b0 h; rw [f5_readProduct_c12] at h; cases h
  | succ m ih =>
    intro I b0 y1 y2 hZ_b0 h
    rw [f5_readProduct_c12] at h
    refine ok_iload_n dX5_readProduct_12 2 rfl ?_
    refine ok_sipush (v := 300) dX5_readProduct_13 (by decide) ?_
    refine ok_icmp_ge (t := 77) dX5_readProduct_16 (by decide) (fun hc1 => ?_) (fun hc1 => ?_)
    · have h := (if_pos hc1).symm.trans h
      refine ok_iconst (v := 1) dX5_readProduct_77 (by decide) ?_
      cases h
      exact ok_iret dX5_readProduct_78 (hQ (Or.inr rfl))
    · have h := (if_neg hc1).symm.trans h
      refine ok_aload_n dX5_readProduct_19 0 rfl ?_
      refine ok_getI (ci := 5) (k := 3) dX5_readProduct_20 flRX5_36 rfl hZ_b0 (by decide) ?_
      refine ok_bipush (v := 42) dX5_readProduct_23 (by decide) ?_
      refine ok_icmp_eq (t := 37) dX5_readProduct_25 (by decide) (fun hc2 => ?_) (fun hc2 => ?_)
      · have h := (if_pos hc2).symm.trans h
        refine ok_sub [0, 1, 2] rfl ?_
        exact o5_readProduct_c37 d r hrec hW hQ ih I b0 y1 y2 hZ_b0 h
      · have h := (if_neg hc2).symm.trans h
        refine ok_aload_n dX5_readProduct_28 0 rfl ?_
        refine ok_getI (ci := 5) (k := 3) dX5_readProduct_29 flRX5_36 rfl hZ_b0 (by decide) ?_
        refine ok_bipush (v := 47) dX5_readProduct_32 (by decide) ?_
        refine ok_icmp_ne (t := 77) dX5_readProduct_34 (by decide) (fun hc3 => ?_) (fun hc3 => ?_)
        · have h := (if_neg hc3).symm.trans h
          refine ok_iconst (v := 1) dX5_readProduct_77 (by decide) ?_
          cases h
          exact ok_iret dX5_readProduct_78 (hQ (Or.inr rfl))
        · have h := (if_pos hc3).symm.trans h
          refine ok_sub [0, 1, 2] rfl ?_
          exact o5_readProduct_c37 d r hrec hW hQ ih I b0 y1 y2 hZ_b0 h
def f5_readProduct_b (n : Nat) (I : (Nat → Nat → Int32)) (O : (Nat → Nat → Option Nat)) (rec : Nat → (Nat → Nat → Int32) → Nat → Int32 → Option (Int32 × (Nat → Nat → Int32))) (a0 : Nat) (x1 : Int32) : Option (Int32 × (Nat → Nat → Int32)) := (rec 2 I a0 x1).bind fun r1 => (if r1.1 = 0 then some ((0 : Int32), r1.2) else f5_readProduct_c12 n O rec n r1.2 a0 x1 (0 : Int32))
set_option maxHeartbeats 4000000 in
set_option maxRecDepth 20000 in
theorem o5_readProduct {g : pG} {Qx : Option Value → pW → Prop} {Z : pZ} {I : (Nat → Nat → Int32)} {L : (Nat → Nat → Int64)} {O : (Nat → Nat → Option Nat)} {n : Nat} {rec : Nat → (Nat → Nat → Int32) → Nat → Int32 → Option (Int32 × (Nat → Nat → Int32))} {a0 : Nat} {x1 : Int32} {res : Int32 × (Nat → Nat → Int32)} (d : Nat) (r : Nat) (hrec : ∀ (t : Nat) (I : (Nat → Nat → Int32)) (a0 : Nat) (x1 : Int32) (res : Int32 × (Nat → Nat → Int32)) (Q : Option Value → pW → Prop), (Z[a0]? = some (5, 8)) → rec t I a0 x1 = some res → Q (some (.int res.1)) (Z, res.2, L, O) → CT g (d + 4 + r) (mt5 t) 0 0 [.ref a0, .int x1] (Z, I, L, O) Q) (hW : WT Z O) (hZ0 : Z[a0]? = some (5, 8)) (h : f5_readProduct_b n I O rec a0 x1 = some res) (hQ : (res.1 = 0 ∨ res.1 = 1) → Qx (some (.int res.1)) (Z, res.2, L, O)) : Ok g (d + 4 + r + 1, RX5, cX5_readProduct, 4, false, 0, 0, Z.length, pSl Z) Qx 0 [(0, .ref a0), (1, .int x1)] [] (Z, I, L, O) := by
  unfold f5_readProduct_b at h
  refine ok_aload_n dX5_readProduct_0 0 rfl ?_
  refine ok_iload_n dX5_readProduct_1 1 rfl ?_
  obtain ⟨r1, hr2, h⟩ := bd h
  refine ok_callV (d := (d + 4 + r)) (mt := m5_readOne) (mc := 0) (ms := 0) (As := [.int x1]) (r := []) dX5_readProduct_2 mo5_readOne mv5_readOne lkRX5_118 rfl hZ0 (q := (RX5, TX5, 8)) rfl rfl rfl (Nat.le_of_ble_eq_true rfl) (by show _ + 1 ≤ d + _ + r + 1; omega) (Nat.le_refl _) (Nat.le_refl _) (pRt_mono ?_)
  refine hrec 2 I _ _ _ _ hZ0 hr2 ?_
  intro hbr1
  show Ok g _ Qx 5 [(0, .ref a0), (1, .int x1)] [.int r1.1] (Z, r1.2, L, O)
  refine ok_if_ne (t := 10) dX5_readProduct_5 (by decide) (fun hc3 => ?_) (fun hc3 => ?_)
  · have h := (if_neg hc3).symm.trans h
    refine ok_iconst (v := 0) dX5_readProduct_10 (by decide) ?_
    refine ok_istore_n (l' := [(2, .int 0), (0, .ref a0), (1, .int x1)]) dX5_readProduct_11 rfl (Nat.le_of_ble_eq_true rfl) rfl ?_
    refine ok_sub [1, 2, 0] rfl ?_
    exact o5_readProduct_c12 d r hrec hW hQ  n r1.2 a0 x1 (0 : Int32) hZ0 h
  · have h := (if_pos hc3).symm.trans h
    refine ok_iconst (v := 0) dX5_readProduct_8 (by decide) ?_
    cases h
    exact ok_iret dX5_readProduct_9 (hQ (Or.inl rfl))
def f5_readOne_c23 (n : Nat) (O : (Nat → Nat → Option Nat)) (rec : Nat → (Nat → Nat → Int32) → Nat → Int32 → Option (Int32 × (Nat → Nat → Int32))) (I : (Nat → Nat → Int32)) (b0 : Nat) (y1 : Int32) (y2 : Int32) : Option (Int32 × (Nat → Nat → Int32)) := (if y2 = 14 then (f5_enter I O b0 y1).bind fun r2 => (if r2.1 = 0 then some ((0 : Int32), r2.2) else (rec 2 r2.2 b0 (y1 + 1)).bind fun r5 => (if r5.1 = 0 then some ((0 : Int32), r5.2) else (if y2 = (45 : Int32) then (f7_add r5.2 O (rO O b0 1) (29 : Int32)).bind fun r12 => some ((1 : Int32), r12.2) else (f7_add r5.2 O (rO O b0 1) y2).bind fun r10 => some ((1 : Int32), r10.2)))) else (if y2 = 15 then (f5_enter I O b0 y1).bind fun r15 => (if r15.1 = 0 then some ((0 : Int32), r15.2) else (rec 2 r15.2 b0 (y1 + 1)).bind fun r18 => (if r18.1 = 0 then some ((0 : Int32), r18.2) else (if y2 = (45 : Int32) then (f7_add r18.2 O (rO O b0 1) (29 : Int32)).bind fun r25 => some ((1 : Int32), r25.2) else (f7_add r18.2 O (rO O b0 1) y2).bind fun r23 => some ((1 : Int32), r23.2)))) else (if y2 = 16 then (f5_enter I O b0 y1).bind fun r28 => (if r28.1 = 0 then some ((0 : Int32), r28.2) else (rec 3 r28.2 b0 (y1 + 1)).bind fun r31 => (if r31.1 = 0 then some ((0 : Int32), r31.2) else some ((1 : Int32), r31.2))) else (if y2 = 28 then (f5_readNumber I O b0).bind fun r35 => some (r35.1, r35.2) else (if y2 = 40 then (f5_enter I O b0 y1).bind fun r38 => (if r38.1 = 0 then some ((0 : Int32), r38.2) else (rec 0 r38.2 b0 (y1 + 1)).bind fun r41 => (if r41.1 = 0 then some ((0 : Int32), r41.2) else (f5_expect r41.2 O b0 (41 : Int32)).bind fun r44 => (if r44.1 = 0 then some ((0 : Int32), r44.2) else some ((1 : Int32), r44.2)))) else (if y2 = 45 then (f5_enter I O b0 y1).bind fun r48 => (if r48.1 = 0 then some ((0 : Int32), r48.2) else (rec 2 r48.2 b0 (y1 + 1)).bind fun r51 => (if r51.1 = 0 then some ((0 : Int32), r51.2) else (if y2 = (45 : Int32) then (f7_add r51.2 O (rO O b0 1) (29 : Int32)).bind fun r58 => some ((1 : Int32), r58.2) else (f7_add r51.2 O (rO O b0 1) y2).bind fun r56 => some ((1 : Int32), r56.2)))) else (f5_refuse I O b0 (1 : Int32)).bind fun r60 => some (r60.1, r60.2)))))))
set_option maxHeartbeats 4000000 in
set_option maxRecDepth 20000 in
theorem o5_readOne_c23 {g : pG} {Qx : Option Value → pW → Prop} {Z : pZ} {L : (Nat → Nat → Int64)} {O : (Nat → Nat → Option Nat)} {n : Nat} {rec : Nat → (Nat → Nat → Int32) → Nat → Int32 → Option (Int32 × (Nat → Nat → Int32))} {res : Int32 × (Nat → Nat → Int32)} (d : Nat) (r : Nat) (hrec : ∀ (t : Nat) (I : (Nat → Nat → Int32)) (a0 : Nat) (x1 : Int32) (res : Int32 × (Nat → Nat → Int32)) (Q : Option Value → pW → Prop), (Z[a0]? = some (5, 8)) → rec t I a0 x1 = some res → Q (some (.int res.1)) (Z, res.2, L, O) → CT g (d + 4 + r) (mt5 t) 0 0 [.ref a0, .int x1] (Z, I, L, O) Q) (hW : WT Z O) (hQ : (res.1 = 0 ∨ res.1 = 1) → Qx (some (.int res.1)) (Z, res.2, L, O)) (I : (Nat → Nat → Int32)) (b0 : Nat) (y1 : Int32) (y2 : Int32) (hZ_b0 : Z[b0]? = some (5, 8)) (h : f5_readOne_c23 n O rec I b0 y1 y2 = some res) : Ok g (d + 4 + r + 1, RX5, cX5_readOne, 3, false, 0, 0, Z.length, pSl Z) Qx 23 [(0, .ref b0), (1, .int y1), (2, .int y2)] [] (Z, I, L, O) := by
  unfold f5_readOne_c23 at h
  refine ok_iload_n dX5_readOne_23 2 rfl ?_
  by_cases hc1 : y2 = 14
  · have h := (if_pos hc1).symm.trans h
    refine ok_lookEq (t := 146) (off := 122) dX5_readOne_24 (by decide) hc1 (by decide) (by decide) ?_
    refine ok_aload_n dX5_readOne_146 0 rfl ?_
    refine ok_iload_n dX5_readOne_147 1 rfl ?_
    obtain ⟨r2, hr3, h⟩ := bd h
    refine ok_callV (d := ((d + 1 + r) + 3)) (mt := m5_enter) (mc := 0) (ms := 0) (As := [.int y1]) (r := []) dX5_readOne_148 mo5_enter mv5_enter lkRX5_127 rfl hZ_b0 (q := (RX5, TX5, 8)) rfl rfl rfl (Nat.le_of_ble_eq_true rfl) (by show _ + 1 ≤ d + _ + r + 1; omega) (Nat.le_refl _) (Nat.le_refl _) (pRt_mono ?_)
    refine k5_enter (d + 1 + r) hW hZ_b0 hr3 ?_
    intro hbr2
    show Ok g _ Qx 151 [(0, .ref b0), (1, .int y1), (2, .int y2)] [.int r2.1] (Z, r2.2, L, O)
    refine ok_if_eq (t := 164) dX5_readOne_151 (by decide) (fun hc4 => ?_) (fun hc4 => ?_)
    · have h := (if_pos hc4).symm.trans h
      refine ok_iconst (v := 0) dX5_readOne_164 (by decide) ?_
      cases h
      exact ok_iret dX5_readOne_165 (hQ (Or.inl rfl))
    · have h := (if_neg hc4).symm.trans h
      refine ok_aload_n dX5_readOne_154 0 rfl ?_
      refine ok_iload_n dX5_readOne_155 1 rfl ?_
      refine ok_iconst (v := 1) dX5_readOne_156 (by decide) ?_
      refine ok_iadd dX5_readOne_157 ?_
      obtain ⟨r5, hr6, h⟩ := bd h
      refine ok_callV (d := (d + 4 + r)) (mt := m5_readOne) (mc := 0) (ms := 0) (As := [.int (y1 + 1)]) (r := []) dX5_readOne_158 mo5_readOne mv5_readOne lkRX5_118 rfl hZ_b0 (q := (RX5, TX5, 8)) rfl rfl rfl (Nat.le_of_ble_eq_true rfl) (by show _ + 1 ≤ d + _ + r + 1; omega) (Nat.le_refl _) (Nat.le_refl _) (pRt_mono ?_)
      refine hrec 2 r2.2 _ _ _ _ hZ_b0 hr6 ?_
      intro hbr5
      show Ok g _ Qx 161 [(0, .ref b0), (1, .int y1), (2, .int y2)] [.int r5.1] (Z, r5.2, L, O)
      refine ok_if_ne (t := 166) dX5_readOne_161 (by decide) (fun hc7 => ?_) (fun hc7 => ?_)
      · have h := (if_neg hc7).symm.trans h
        refine ok_aload_n dX5_readOne_166 0 rfl ?_
        have hT8 : Z[(rO O b0 1)]? = some (7, 7) := (wt_f (ci := 5) (k := 1) hW hZ_b0 rfl).2
        refine ok_getR (ci := 5) (k := 1) dX5_readOne_167 flRX5_12 rfl hW hZ_b0 (by decide) ?_
        refine ok_iload_n dX5_readOne_170 2 rfl ?_
        refine ok_bipush (v := 45) dX5_readOne_171 (by decide) ?_
        refine ok_icmp_ne (t := 181) dX5_readOne_173 (by decide) (fun hc9 => ?_) (fun hc9 => ?_)
        · have h := (if_neg hc9).symm.trans h
          refine ok_iload_n dX5_readOne_181 2 rfl ?_
          obtain ⟨r10, hr11, h⟩ := bd h
          refine ok_callV (d := ((d + 2 + r) + 2)) (mt := m7_add) (mc := 0) (ms := 0) (As := [.int y2]) (r := []) dX5_readOne_182 mo7_add mv7_add lkRX5_105 rfl hT8 (q := (RX7, TX7, 7)) rfl rfl rfl (Nat.le_of_ble_eq_true rfl) (by show _ + 1 ≤ d + _ + r + 1; omega) (Nat.le_refl _) (Nat.le_refl _) (pRt_mono ?_)
          refine k7_add (d + 2 + r) hW hT8 hr11 ?_
          intro _
          show Ok g _ Qx 185 [(0, .ref b0), (1, .int y1), (2, .int y2)] [.int r10.1] (Z, r10.2, L, O)
          refine ok_pop dX5_readOne_185 rfl ?_
          refine ok_iconst (v := 1) dX5_readOne_186 (by decide) ?_
          cases h
          exact ok_iret dX5_readOne_187 (hQ (Or.inr rfl))
        · have h := (if_pos hc9).symm.trans h
          refine ok_bipush (v := 29) dX5_readOne_176 (by decide) ?_
          refine ok_goto (t := 182) dX5_readOne_178 (by decide) ?_
          obtain ⟨r12, hr13, h⟩ := bd h
          refine ok_callV (d := ((d + 2 + r) + 2)) (mt := m7_add) (mc := 0) (ms := 0) (As := [.int 29]) (r := []) dX5_readOne_182 mo7_add mv7_add lkRX5_105 rfl hT8 (q := (RX7, TX7, 7)) rfl rfl rfl (Nat.le_of_ble_eq_true rfl) (by show _ + 1 ≤ d + _ + r + 1; omega) (Nat.le_refl _) (Nat.le_refl _) (pRt_mono ?_)
          refine k7_add (d + 2 + r) hW hT8 hr13 ?_
          intro _
          show Ok g _ Qx 185 [(0, .ref b0), (1, .int y1), (2, .int y2)] [.int r12.1] (Z, r12.2, L, O)
          refine ok_pop dX5_readOne_185 rfl ?_
          refine ok_iconst (v := 1) dX5_readOne_186 (by decide) ?_
          cases h
          exact ok_iret dX5_readOne_187 (hQ (Or.inr rfl))
      · have h := (if_pos hc7).symm.trans h
        refine ok_iconst (v := 0) dX5_readOne_164 (by decide) ?_
        cases h
        exact ok_iret dX5_readOne_165 (hQ (Or.inl rfl))
  · have h := (if_neg hc1).symm.trans h
    by_cases hc14 : y2 = 15
    · have h := (if_pos hc14).symm.trans h
      refine ok_lookEq (t := 146) (off := 122) dX5_readOne_24 (by decide) hc14 (by decide) (by decide) ?_
      refine ok_aload_n dX5_readOne_146 0 rfl ?_
      refine ok_iload_n dX5_readOne_147 1 rfl ?_
      obtain ⟨r15, hr16, h⟩ := bd h
      refine ok_callV (d := ((d + 1 + r) + 3)) (mt := m5_enter) (mc := 0) (ms := 0) (As := [.int y1]) (r := []) dX5_readOne_148 mo5_enter mv5_enter lkRX5_127 rfl hZ_b0 (q := (RX5, TX5, 8)) rfl rfl rfl (Nat.le_of_ble_eq_true rfl) (by show _ + 1 ≤ d + _ + r + 1; omega) (Nat.le_refl _) (Nat.le_refl _) (pRt_mono ?_)
      refine k5_enter (d + 1 + r) hW hZ_b0 hr16 ?_
      intro hbr15
      show Ok g _ Qx 151 [(0, .ref b0), (1, .int y1), (2, .int y2)] [.int r15.1] (Z, r15.2, L, O)
      refine ok_if_eq (t := 164) dX5_readOne_151 (by decide) (fun hc17 => ?_) (fun hc17 => ?_)
      · have h := (if_pos hc17).symm.trans h
        refine ok_iconst (v := 0) dX5_readOne_164 (by decide) ?_
        cases h
        exact ok_iret dX5_readOne_165 (hQ (Or.inl rfl))
      · have h := (if_neg hc17).symm.trans h
        refine ok_aload_n dX5_readOne_154 0 rfl ?_
        refine ok_iload_n dX5_readOne_155 1 rfl ?_
        refine ok_iconst (v := 1) dX5_readOne_156 (by decide) ?_
        refine ok_iadd dX5_readOne_157 ?_
        obtain ⟨r18, hr19, h⟩ := bd h
        refine ok_callV (d := (d + 4 + r)) (mt := m5_readOne) (mc := 0) (ms := 0) (As := [.int (y1 + 1)]) (r := []) dX5_readOne_158 mo5_readOne mv5_readOne lkRX5_118 rfl hZ_b0 (q := (RX5, TX5, 8)) rfl rfl rfl (Nat.le_of_ble_eq_true rfl) (by show _ + 1 ≤ d + _ + r + 1; omega) (Nat.le_refl _) (Nat.le_refl _) (pRt_mono ?_)
        refine hrec 2 r15.2 _ _ _ _ hZ_b0 hr19 ?_
        intro hbr18
        show Ok g _ Qx 161 [(0, .ref b0), (1, .int y1), (2, .int y2)] [.int r18.1] (Z, r18.2, L, O)
        refine ok_if_ne (t := 166) dX5_readOne_161 (by decide) (fun hc20 => ?_) (fun hc20 => ?_)
        · have h := (if_neg hc20).symm.trans h
          refine ok_aload_n dX5_readOne_166 0 rfl ?_
          have hT21 : Z[(rO O b0 1)]? = some (7, 7) := (wt_f (ci := 5) (k := 1) hW hZ_b0 rfl).2
          refine ok_getR (ci := 5) (k := 1) dX5_readOne_167 flRX5_12 rfl hW hZ_b0 (by decide) ?_
          refine ok_iload_n dX5_readOne_170 2 rfl ?_
          refine ok_bipush (v := 45) dX5_readOne_171 (by decide) ?_
          refine ok_icmp_ne (t := 181) dX5_readOne_173 (by decide) (fun hc22 => ?_) (fun hc22 => ?_)
          · have h := (if_neg hc22).symm.trans h
            refine ok_iload_n dX5_readOne_181 2 rfl ?_
            obtain ⟨r23, hr24, h⟩ := bd h
            refine ok_callV (d := ((d + 2 + r) + 2)) (mt := m7_add) (mc := 0) (ms := 0) (As := [.int y2]) (r := []) dX5_readOne_182 mo7_add mv7_add lkRX5_105 rfl hT21 (q := (RX7, TX7, 7)) rfl rfl rfl (Nat.le_of_ble_eq_true rfl) (by show _ + 1 ≤ d + _ + r + 1; omega) (Nat.le_refl _) (Nat.le_refl _) (pRt_mono ?_)
            refine k7_add (d + 2 + r) hW hT21 hr24 ?_
            intro _
            show Ok g _ Qx 185 [(0, .ref b0), (1, .int y1), (2, .int y2)] [.int r23.1] (Z, r23.2, L, O)
            refine ok_pop dX5_readOne_185 rfl ?_
            refine ok_iconst (v := 1) dX5_readOne_186 (by decide) ?_
            cases h
            exact ok_iret dX5_readOne_187 (hQ (Or.inr rfl))
          · have h := (if_pos hc22).symm.trans h
            refine ok_bipush (v := 29) dX5_readOne_176 (by decide) ?_
            refine ok_goto (t := 182) dX5_readOne_178 (by decide) ?_
            obtain ⟨r25, hr26, h⟩ := bd h
            refine ok_callV (d := ((d + 2 + r) + 2)) (mt := m7_add) (mc := 0) (ms := 0) (As := [.int 29]) (r := []) dX5_readOne_182 mo7_add mv7_add lkRX5_105 rfl hT21 (q := (RX7, TX7, 7)) rfl rfl rfl (Nat.le_of_ble_eq_true rfl) (by show _ + 1 ≤ d + _ + r + 1; omega) (Nat.le_refl _) (Nat.le_refl _) (pRt_mono ?_)
            refine k7_add (d + 2 + r) hW hT21 hr26 ?_
            intro _
            show Ok g _ Qx 185 [(0, .ref b0), (1, .int y1), (2, .int y2)] [.int r25.1] (Z, r25.2, L, O)
            refine ok_pop dX5_readOne_185 rfl ?_
            refine ok_iconst (v := 1) dX5_readOne_186 (by decide) ?_
            cases h
            exact ok_iret dX5_readOne_187 (hQ (Or.inr rfl))
        · have h := (if_pos hc20).symm.trans h
          refine ok_iconst (v := 0) dX5_readOne_164 (by decide) ?_
          cases h
          exact ok_iret dX5_readOne_165 (hQ (Or.inl rfl))
    · have h := (if_neg hc14).symm.trans h
      by_cases hc27 : y2 = 16
      · have h := (if_pos hc27).symm.trans h
        refine ok_lookEq (t := 122) (off := 98) dX5_readOne_24 (by decide) hc27 (by decide) (by decide) ?_
        refine ok_aload_n dX5_readOne_122 0 rfl ?_
        refine ok_iload_n dX5_readOne_123 1 rfl ?_
        obtain ⟨r28, hr29, h⟩ := bd h
        refine ok_callV (d := ((d + 1 + r) + 3)) (mt := m5_enter) (mc := 0) (ms := 0) (As := [.int y1]) (r := []) dX5_readOne_124 mo5_enter mv5_enter lkRX5_127 rfl hZ_b0 (q := (RX5, TX5, 8)) rfl rfl rfl (Nat.le_of_ble_eq_true rfl) (by show _ + 1 ≤ d + _ + r + 1; omega) (Nat.le_refl _) (Nat.le_refl _) (pRt_mono ?_)
        refine k5_enter (d + 1 + r) hW hZ_b0 hr29 ?_
        intro hbr28
        show Ok g _ Qx 127 [(0, .ref b0), (1, .int y1), (2, .int y2)] [.int r28.1] (Z, r28.2, L, O)
        refine ok_if_eq (t := 144) dX5_readOne_127 (by decide) (fun hc30 => ?_) (fun hc30 => ?_)
        · have h := (if_pos hc30).symm.trans h
          refine ok_iconst (v := 0) dX5_readOne_144 (by decide) ?_
          cases h
          exact ok_iret dX5_readOne_145 (hQ (Or.inl rfl))
        · have h := (if_neg hc30).symm.trans h
          refine ok_aload_n dX5_readOne_130 0 rfl ?_
          refine ok_iload_n dX5_readOne_131 1 rfl ?_
          refine ok_iconst (v := 1) dX5_readOne_132 (by decide) ?_
          refine ok_iadd dX5_readOne_133 ?_
          obtain ⟨r31, hr32, h⟩ := bd h
          refine ok_callV (d := (d + 4 + r)) (mt := m5_readChoice) (mc := 0) (ms := 0) (As := [.int (y1 + 1)]) (r := []) dX5_readOne_134 mo5_readChoice mv5_readChoice lkRX5_130 rfl hZ_b0 (q := (RX5, TX5, 8)) rfl rfl rfl (Nat.le_of_ble_eq_true rfl) (by show _ + 1 ≤ d + _ + r + 1; omega) (Nat.le_refl _) (Nat.le_refl _) (pRt_mono ?_)
          refine hrec 3 r28.2 _ _ _ _ hZ_b0 hr32 ?_
          intro hbr31
          show Ok g _ Qx 137 [(0, .ref b0), (1, .int y1), (2, .int y2)] [.int r31.1] (Z, r31.2, L, O)
          refine ok_if_eq (t := 144) dX5_readOne_137 (by decide) (fun hc33 => ?_) (fun hc33 => ?_)
          · have h := (if_pos hc33).symm.trans h
            refine ok_iconst (v := 0) dX5_readOne_144 (by decide) ?_
            cases h
            exact ok_iret dX5_readOne_145 (hQ (Or.inl rfl))
          · have h := (if_neg hc33).symm.trans h
            refine ok_iconst (v := 1) dX5_readOne_140 (by decide) ?_
            refine ok_goto (t := 145) dX5_readOne_141 (by decide) ?_
            cases h
            exact ok_iret dX5_readOne_145 (hQ (Or.inr rfl))
      · have h := (if_neg hc27).symm.trans h
        by_cases hc34 : y2 = 28
        · have h := (if_pos hc34).symm.trans h
          refine ok_lookEq (t := 84) (off := 60) dX5_readOne_24 (by decide) hc34 (by decide) (by decide) ?_
          refine ok_aload_n dX5_readOne_84 0 rfl ?_
          obtain ⟨r35, hr36, h⟩ := bd h
          refine ok_callV (d := ((d + 1 + r) + 3)) (mt := m5_readNumber) (mc := 0) (ms := 0) (As := []) (r := []) dX5_readOne_85 mo5_readNumber mv5_readNumber lkRX5_124 rfl hZ_b0 (q := (RX5, TX5, 8)) rfl rfl rfl (Nat.le_of_ble_eq_true rfl) (by show _ + 1 ≤ d + _ + r + 1; omega) (Nat.le_refl _) (Nat.le_refl _) (pRt_mono ?_)
          refine k5_readNumber (d + 1 + r) hW hZ_b0 hr36 ?_
          intro hbr35
          show Ok g _ Qx 88 [(0, .ref b0), (1, .int y1), (2, .int y2)] [.int r35.1] (Z, r35.2, L, O)
          cases h
          exact ok_iret dX5_readOne_88 (hQ hbr35)
        · have h := (if_neg hc34).symm.trans h
          by_cases hc37 : y2 = 40
          · have h := (if_pos hc37).symm.trans h
            refine ok_lookEq (t := 89) (off := 65) dX5_readOne_24 (by decide) hc37 (by decide) (by decide) ?_
            refine ok_aload_n dX5_readOne_89 0 rfl ?_
            refine ok_iload_n dX5_readOne_90 1 rfl ?_
            obtain ⟨r38, hr39, h⟩ := bd h
            refine ok_callV (d := ((d + 1 + r) + 3)) (mt := m5_enter) (mc := 0) (ms := 0) (As := [.int y1]) (r := []) dX5_readOne_91 mo5_enter mv5_enter lkRX5_127 rfl hZ_b0 (q := (RX5, TX5, 8)) rfl rfl rfl (Nat.le_of_ble_eq_true rfl) (by show _ + 1 ≤ d + _ + r + 1; omega) (Nat.le_refl _) (Nat.le_refl _) (pRt_mono ?_)
            refine k5_enter (d + 1 + r) hW hZ_b0 hr39 ?_
            intro hbr38
            show Ok g _ Qx 94 [(0, .ref b0), (1, .int y1), (2, .int y2)] [.int r38.1] (Z, r38.2, L, O)
            refine ok_if_eq (t := 120) dX5_readOne_94 (by decide) (fun hc40 => ?_) (fun hc40 => ?_)
            · have h := (if_pos hc40).symm.trans h
              refine ok_iconst (v := 0) dX5_readOne_120 (by decide) ?_
              cases h
              exact ok_iret dX5_readOne_121 (hQ (Or.inl rfl))
            · have h := (if_neg hc40).symm.trans h
              refine ok_aload_n dX5_readOne_97 0 rfl ?_
              refine ok_iload_n dX5_readOne_98 1 rfl ?_
              refine ok_iconst (v := 1) dX5_readOne_99 (by decide) ?_
              refine ok_iadd dX5_readOne_100 ?_
              obtain ⟨r41, hr42, h⟩ := bd h
              refine ok_callV (d := (d + 4 + r)) (mt := m5_readSum) (mc := 0) (ms := 0) (As := [.int (y1 + 1)]) (r := []) dX5_readOne_101 mo5_readSum mv5_readSum lkRX5_112 rfl hZ_b0 (q := (RX5, TX5, 8)) rfl rfl rfl (Nat.le_of_ble_eq_true rfl) (by show _ + 1 ≤ d + _ + r + 1; omega) (Nat.le_refl _) (Nat.le_refl _) (pRt_mono ?_)
              refine hrec 0 r38.2 _ _ _ _ hZ_b0 hr42 ?_
              intro hbr41
              show Ok g _ Qx 104 [(0, .ref b0), (1, .int y1), (2, .int y2)] [.int r41.1] (Z, r41.2, L, O)
              refine ok_if_eq (t := 120) dX5_readOne_104 (by decide) (fun hc43 => ?_) (fun hc43 => ?_)
              · have h := (if_pos hc43).symm.trans h
                refine ok_iconst (v := 0) dX5_readOne_120 (by decide) ?_
                cases h
                exact ok_iret dX5_readOne_121 (hQ (Or.inl rfl))
              · have h := (if_neg hc43).symm.trans h
                refine ok_aload_n dX5_readOne_107 0 rfl ?_
                refine ok_bipush (v := 41) dX5_readOne_108 (by decide) ?_
                obtain ⟨r44, hr45, h⟩ := bd h
                refine ok_callV (d := ((d + 1 + r) + 3)) (mt := m5_expect) (mc := 0) (ms := 0) (As := [.int 41]) (r := []) dX5_readOne_110 mo5_expect mv5_expect lkRX5_43 rfl hZ_b0 (q := (RX5, TX5, 8)) rfl rfl rfl (Nat.le_of_ble_eq_true rfl) (by show _ + 1 ≤ d + _ + r + 1; omega) (Nat.le_refl _) (Nat.le_refl _) (pRt_mono ?_)
                refine k5_expect (d + 1 + r) hW hZ_b0 hr45 ?_
                intro hbr44
                show Ok g _ Qx 113 [(0, .ref b0), (1, .int y1), (2, .int y2)] [.int r44.1] (Z, r44.2, L, O)
                refine ok_if_eq (t := 120) dX5_readOne_113 (by decide) (fun hc46 => ?_) (fun hc46 => ?_)
                · have h := (if_pos hc46).symm.trans h
                  refine ok_iconst (v := 0) dX5_readOne_120 (by decide) ?_
                  cases h
                  exact ok_iret dX5_readOne_121 (hQ (Or.inl rfl))
                · have h := (if_neg hc46).symm.trans h
                  refine ok_iconst (v := 1) dX5_readOne_116 (by decide) ?_
                  refine ok_goto (t := 121) dX5_readOne_117 (by decide) ?_
                  cases h
                  exact ok_iret dX5_readOne_121 (hQ (Or.inr rfl))
          · have h := (if_neg hc37).symm.trans h
            by_cases hc47 : y2 = 45
            · have h := (if_pos hc47).symm.trans h
              refine ok_lookEq (t := 146) (off := 122) dX5_readOne_24 (by decide) hc47 (by decide) (by decide) ?_
              refine ok_aload_n dX5_readOne_146 0 rfl ?_
              refine ok_iload_n dX5_readOne_147 1 rfl ?_
              obtain ⟨r48, hr49, h⟩ := bd h
              refine ok_callV (d := ((d + 1 + r) + 3)) (mt := m5_enter) (mc := 0) (ms := 0) (As := [.int y1]) (r := []) dX5_readOne_148 mo5_enter mv5_enter lkRX5_127 rfl hZ_b0 (q := (RX5, TX5, 8)) rfl rfl rfl (Nat.le_of_ble_eq_true rfl) (by show _ + 1 ≤ d + _ + r + 1; omega) (Nat.le_refl _) (Nat.le_refl _) (pRt_mono ?_)
              refine k5_enter (d + 1 + r) hW hZ_b0 hr49 ?_
              intro hbr48
              show Ok g _ Qx 151 [(0, .ref b0), (1, .int y1), (2, .int y2)] [.int r48.1] (Z, r48.2, L, O)
              refine ok_if_eq (t := 164) dX5_readOne_151 (by decide) (fun hc50 => ?_) (fun hc50 => ?_)
              · have h := (if_pos hc50).symm.trans h
                refine ok_iconst (v := 0) dX5_readOne_164 (by decide) ?_
                cases h
                exact ok_iret dX5_readOne_165 (hQ (Or.inl rfl))
              · have h := (if_neg hc50).symm.trans h
                refine ok_aload_n dX5_readOne_154 0 rfl ?_
                refine ok_iload_n dX5_readOne_155 1 rfl ?_
                refine ok_iconst (v := 1) dX5_readOne_156 (by decide) ?_
                refine ok_iadd dX5_readOne_157 ?_
                obtain ⟨r51, hr52, h⟩ := bd h
                refine ok_callV (d := (d + 4 + r)) (mt := m5_readOne) (mc := 0) (ms := 0) (As := [.int (y1 + 1)]) (r := []) dX5_readOne_158 mo5_readOne mv5_readOne lkRX5_118 rfl hZ_b0 (q := (RX5, TX5, 8)) rfl rfl rfl (Nat.le_of_ble_eq_true rfl) (by show _ + 1 ≤ d + _ + r + 1; omega) (Nat.le_refl _) (Nat.le_refl _) (pRt_mono ?_)
                refine hrec 2 r48.2 _ _ _ _ hZ_b0 hr52 ?_
                intro hbr51
                show Ok g _ Qx 161 [(0, .ref b0), (1, .int y1), (2, .int y2)] [.int r51.1] (Z, r51.2, L, O)
                refine ok_if_ne (t := 166) dX5_readOne_161 (by decide) (fun hc53 => ?_) (fun hc53 => ?_)
                · have h := (if_neg hc53).symm.trans h
                  refine ok_aload_n dX5_readOne_166 0 rfl ?_
                  have hT54 : Z[(rO O b0 1)]? = some (7, 7) := (wt_f (ci := 5) (k := 1) hW hZ_b0 rfl).2
                  refine ok_getR (ci := 5) (k := 1) dX5_readOne_167 flRX5_12 rfl hW hZ_b0 (by decide) ?_
                  refine ok_iload_n dX5_readOne_170 2 rfl ?_
                  refine ok_bipush (v := 45) dX5_readOne_171 (by decide) ?_
                  refine ok_icmp_ne (t := 181) dX5_readOne_173 (by decide) (fun hc55 => ?_) (fun hc55 => ?_)
                  · have h := (if_neg hc55).symm.trans h
                    refine ok_iload_n dX5_readOne_181 2 rfl ?_
                    obtain ⟨r56, hr57, h⟩ := bd h
                    refine ok_callV (d := ((d + 2 + r) + 2)) (mt := m7_add) (mc := 0) (ms := 0) (As := [.int y2]) (r := []) dX5_readOne_182 mo7_add mv7_add lkRX5_105 rfl hT54 (q := (RX7, TX7, 7)) rfl rfl rfl (Nat.le_of_ble_eq_true rfl) (by show _ + 1 ≤ d + _ + r + 1; omega) (Nat.le_refl _) (Nat.le_refl _) (pRt_mono ?_)
                    refine k7_add (d + 2 + r) hW hT54 hr57 ?_
                    intro _
                    show Ok g _ Qx 185 [(0, .ref b0), (1, .int y1), (2, .int y2)] [.int r56.1] (Z, r56.2, L, O)
                    refine ok_pop dX5_readOne_185 rfl ?_
                    refine ok_iconst (v := 1) dX5_readOne_186 (by decide) ?_
                    cases h
                    exact ok_iret dX5_readOne_187 (hQ (Or.inr rfl))
                  · have h := (if_pos hc55).symm.trans h
                    refine ok_bipush (v := 29) dX5_readOne_176 (by decide) ?_
                    refine ok_goto (t := 182) dX5_readOne_178 (by decide) ?_
                    obtain ⟨r58, hr59, h⟩ := bd h
                    refine ok_callV (d := ((d + 2 + r) + 2)) (mt := m7_add) (mc := 0) (ms := 0) (As := [.int 29]) (r := []) dX5_readOne_182 mo7_add mv7_add lkRX5_105 rfl hT54 (q := (RX7, TX7, 7)) rfl rfl rfl (Nat.le_of_ble_eq_true rfl) (by show _ + 1 ≤ d + _ + r + 1; omega) (Nat.le_refl _) (Nat.le_refl _) (pRt_mono ?_)
                    refine k7_add (d + 2 + r) hW hT54 hr59 ?_
                    intro _
                    show Ok g _ Qx 185 [(0, .ref b0), (1, .int y1), (2, .int y2)] [.int r58.1] (Z, r58.2, L, O)
                    refine ok_pop dX5_readOne_185 rfl ?_
                    refine ok_iconst (v := 1) dX5_readOne_186 (by decide) ?_
                    cases h
                    exact ok_iret dX5_readOne_187 (hQ (Or.inr rfl))
                · have h := (if_pos hc53).symm.trans h
                  refine ok_iconst (v := 0) dX5_readOne_164 (by decide) ?_
                  cases h
                  exact ok_iret dX5_readOne_165 (hQ (Or.inl rfl))
            · have h := (if_neg hc47).symm.trans h
              refine ok_look (t := 188) (off := 164) dX5_readOne_24 (by decide) (by have n14 := neI hc1 (a := 14) (by decide); have n15 := neI hc14 (a := 15) (by decide); have n16 := neI hc27 (a := 16) (by decide); have n28 := neI hc34 (a := 28) (by decide); have n40 := neI hc37 (a := 40) (by decide); have n45 := neI hc47 (a := 45) (by decide); exact (lkc n14).trans ((lkc n15).trans ((lkc n16).trans ((lkc n28).trans ((lkc n40).trans ((lkc n45).trans (rfl))))))) (by decide) ?_
              refine ok_aload_n dX5_readOne_188 0 rfl ?_
              refine ok_iconst (v := 1) dX5_readOne_189 (by decide) ?_
              obtain ⟨r60, hr61, h⟩ := bd h
              refine ok_callV (d := ((d + 2 + r) + 2)) (mt := m5_refuse) (mc := 0) (ms := 0) (As := [.int 1]) (r := []) dX5_readOne_190 mo5_refuse mv5_refuse lkRX5_71 rfl hZ_b0 (q := (RX5, TX5, 8)) rfl rfl rfl (Nat.le_of_ble_eq_true rfl) (by show _ + 1 ≤ d + _ + r + 1; omega) (Nat.le_refl _) (Nat.le_refl _) (pRt_mono ?_)
              refine k5_refuse (d + 2 + r) hW hZ_b0 hr61 ?_
              intro hbr60
              show Ok g _ Qx 193 [(0, .ref b0), (1, .int y1), (2, .int y2)] [.int r60.1] (Z, r60.2, L, O)
              cases h
              exact ok_iret dX5_readOne_193 (hQ hbr60)
def f5_readOne_b (n : Nat) (I : (Nat → Nat → Int32)) (O : (Nat → Nat → Option Nat)) (rec : Nat → (Nat → Nat → Int32) → Nat → Int32 → Option (Int32 × (Nat → Nat → Int32))) (a0 : Nat) (x1 : Int32) : Option (Int32 × (Nat → Nat → Int32)) := (if (I a0 3) < (7 : Int32) then f5_readOne_c23 n O rec I a0 x1 (I a0 3) else (if (13 : Int32) < (I a0 3) then f5_readOne_c23 n O rec I a0 x1 (I a0 3) else (f5_readName I O a0 (I a0 3)).bind fun r3 => some (r3.1, r3.2)))
set_option maxHeartbeats 4000000 in
set_option maxRecDepth 20000 in
theorem o5_readOne {g : pG} {Qx : Option Value → pW → Prop} {Z : pZ} {I : (Nat → Nat → Int32)} {L : (Nat → Nat → Int64)} {O : (Nat → Nat → Option Nat)} {n : Nat} {rec : Nat → (Nat → Nat → Int32) → Nat → Int32 → Option (Int32 × (Nat → Nat → Int32))} {a0 : Nat} {x1 : Int32} {res : Int32 × (Nat → Nat → Int32)} (d : Nat) (r : Nat) (hrec : ∀ (t : Nat) (I : (Nat → Nat → Int32)) (a0 : Nat) (x1 : Int32) (res : Int32 × (Nat → Nat → Int32)) (Q : Option Value → pW → Prop), (Z[a0]? = some (5, 8)) → rec t I a0 x1 = some res → Q (some (.int res.1)) (Z, res.2, L, O) → CT g (d + 4 + r) (mt5 t) 0 0 [.ref a0, .int x1] (Z, I, L, O) Q) (hW : WT Z O) (hZ0 : Z[a0]? = some (5, 8)) (h : f5_readOne_b n I O rec a0 x1 = some res) (hQ : (res.1 = 0 ∨ res.1 = 1) → Qx (some (.int res.1)) (Z, res.2, L, O)) : Ok g (d + 4 + r + 1, RX5, cX5_readOne, 3, false, 0, 0, Z.length, pSl Z) Qx 0 [(0, .ref a0), (1, .int x1)] [] (Z, I, L, O) := by
  unfold f5_readOne_b at h
  refine ok_aload_n dX5_readOne_0 0 rfl ?_
  refine ok_getI (ci := 5) (k := 3) dX5_readOne_1 flRX5_36 rfl hZ0 (by decide) ?_
  refine ok_istore_n (l' := [(2, .int (I a0 3)), (0, .ref a0), (1, .int x1)]) dX5_readOne_4 rfl (Nat.le_of_ble_eq_true rfl) rfl ?_
  refine ok_iload_n dX5_readOne_5 0 rfl ?_
  refine ok_bipush (v := 7) dX5_readOne_6 (by decide) ?_
  refine ok_icmp_lt (t := 23) dX5_readOne_8 (by decide) (fun hc1 => ?_) (fun hc1 => ?_)
  · have h := (if_pos hc1).symm.trans h
    refine ok_sub [1, 2, 0] rfl ?_
    exact o5_readOne_c23 d r hrec hW hQ  I a0 x1 (I a0 3) hZ0 h
  · have h := (if_neg hc1).symm.trans h
    refine ok_iload_n dX5_readOne_11 0 rfl ?_
    refine ok_bipush (v := 13) dX5_readOne_12 (by decide) ?_
    refine ok_icmp_gt (t := 23) dX5_readOne_14 (by decide) (fun hc2 => ?_) (fun hc2 => ?_)
    · have h := (if_pos hc2).symm.trans h
      refine ok_sub [1, 2, 0] rfl ?_
      exact o5_readOne_c23 d r hrec hW hQ  I a0 x1 (I a0 3) hZ0 h
    · have h := (if_neg hc2).symm.trans h
      refine ok_aload_n dX5_readOne_17 1 rfl ?_
      refine ok_iload_n dX5_readOne_18 0 rfl ?_
      obtain ⟨r3, hr4, h⟩ := bd h
      refine ok_callV (d := ((d + 1 + r) + 3)) (mt := m5_readName) (mc := 0) (ms := 0) (As := [.int (I a0 3)]) (r := []) dX5_readOne_19 mo5_readName mv5_readName lkRX5_121 rfl hZ0 (q := (RX5, TX5, 8)) rfl rfl rfl (Nat.le_of_ble_eq_true rfl) (by show _ + 1 ≤ d + _ + r + 1; omega) (Nat.le_refl _) (Nat.le_refl _) (pRt_mono ?_)
      refine k5_readName (d + 1 + r) hW hZ0 hr4 ?_
      intro hbr3
      show Ok g _ Qx 22 [(2, .int (I a0 3)), (0, .ref a0), (1, .int x1)] [.int r3.1] (Z, r3.2, L, O)
      cases h
      exact ok_iret dX5_readOne_22 (hQ hbr3)
def f5_readChoice_b (n : Nat) (I : (Nat → Nat → Int32)) (O : (Nat → Nat → Option Nat)) (rec : Nat → (Nat → Nat → Int32) → Nat → Int32 → Option (Int32 × (Nat → Nat → Int32))) (a0 : Nat) (x1 : Int32) : Option (Int32 × (Nat → Nat → Int32)) := (rec 4 I a0 x1).bind fun r1 => (if r1.1 = 0 then some ((0 : Int32), r1.2) else (f5_expect r1.2 O a0 (17 : Int32)).bind fun r4 => (if r4.1 = 0 then some ((0 : Int32), r4.2) else (f7_add r4.2 O (rO O a0 1) (17 : Int32)).bind fun r8 => (rec 0 r8.2 a0 x1).bind fun r10 => (if r10.1 = 0 then some ((0 : Int32), r10.2) else (f5_expect r10.2 O a0 (18 : Int32)).bind fun r13 => (if r13.1 = 0 then some ((0 : Int32), r13.2) else (f7_add r13.2 O (rO O a0 1) (18 : Int32)).bind fun r16 => (f7_aim r16.2 O (rO O a0 1) r8.1).bind fun r18 => (rec 0 r18 a0 x1).bind fun r20 => (if r20.1 = 0 then some ((0 : Int32), r20.2) else (f5_expect r20.2 O a0 (19 : Int32)).bind fun r23 => (if r23.1 = 0 then some ((0 : Int32), r23.2) else (f7_aim r23.2 O (rO O a0 1) r16.1).bind fun r26 => some ((1 : Int32), r26)))))))
set_option maxHeartbeats 4000000 in
set_option maxRecDepth 20000 in
theorem o5_readChoice {g : pG} {Qx : Option Value → pW → Prop} {Z : pZ} {I : (Nat → Nat → Int32)} {L : (Nat → Nat → Int64)} {O : (Nat → Nat → Option Nat)} {n : Nat} {rec : Nat → (Nat → Nat → Int32) → Nat → Int32 → Option (Int32 × (Nat → Nat → Int32))} {a0 : Nat} {x1 : Int32} {res : Int32 × (Nat → Nat → Int32)} (d : Nat) (r : Nat) (hrec : ∀ (t : Nat) (I : (Nat → Nat → Int32)) (a0 : Nat) (x1 : Int32) (res : Int32 × (Nat → Nat → Int32)) (Q : Option Value → pW → Prop), (Z[a0]? = some (5, 8)) → rec t I a0 x1 = some res → Q (some (.int res.1)) (Z, res.2, L, O) → CT g (d + 4 + r) (mt5 t) 0 0 [.ref a0, .int x1] (Z, I, L, O) Q) (hW : WT Z O) (hZ0 : Z[a0]? = some (5, 8)) (h : f5_readChoice_b n I O rec a0 x1 = some res) (hQ : (res.1 = 0 ∨ res.1 = 1) → Qx (some (.int res.1)) (Z, res.2, L, O)) : Ok g (d + 4 + r + 1, RX5, cX5_readChoice, 4, false, 0, 0, Z.length, pSl Z) Qx 0 [(0, .ref a0), (1, .int x1)] [] (Z, I, L, O) := by
  unfold f5_readChoice_b at h
  refine ok_aload_n dX5_readChoice_0 0 rfl ?_
  refine ok_iload_n dX5_readChoice_1 1 rfl ?_
  obtain ⟨r1, hr2, h⟩ := bd h
  refine ok_callV (d := (d + 4 + r)) (mt := m5_readEither) (mc := 0) (ms := 0) (As := [.int x1]) (r := []) dX5_readChoice_2 mo5_readEither mv5_readEither lkRX5_133 rfl hZ0 (q := (RX5, TX5, 8)) rfl rfl rfl (Nat.le_of_ble_eq_true rfl) (by show _ + 1 ≤ d + _ + r + 1; omega) (Nat.le_refl _) (Nat.le_refl _) (pRt_mono ?_)
  refine hrec 4 I _ _ _ _ hZ0 hr2 ?_
  intro hbr1
  show Ok g _ Qx 5 [(0, .ref a0), (1, .int x1)] [.int r1.1] (Z, r1.2, L, O)
  refine ok_if_eq (t := 17) dX5_readChoice_5 (by decide) (fun hc3 => ?_) (fun hc3 => ?_)
  · have h := (if_pos hc3).symm.trans h
    refine ok_iconst (v := 0) dX5_readChoice_17 (by decide) ?_
    cases h
    exact ok_iret dX5_readChoice_18 (hQ (Or.inl rfl))
  · have h := (if_neg hc3).symm.trans h
    refine ok_aload_n dX5_readChoice_8 0 rfl ?_
    refine ok_bipush (v := 17) dX5_readChoice_9 (by decide) ?_
    obtain ⟨r4, hr5, h⟩ := bd h
    refine ok_callV (d := ((d + 1 + r) + 3)) (mt := m5_expect) (mc := 0) (ms := 0) (As := [.int 17]) (r := []) dX5_readChoice_11 mo5_expect mv5_expect lkRX5_43 rfl hZ0 (q := (RX5, TX5, 8)) rfl rfl rfl (Nat.le_of_ble_eq_true rfl) (by show _ + 1 ≤ d + _ + r + 1; omega) (Nat.le_refl _) (Nat.le_refl _) (pRt_mono ?_)
    refine k5_expect (d + 1 + r) hW hZ0 hr5 ?_
    intro hbr4
    show Ok g _ Qx 14 [(0, .ref a0), (1, .int x1)] [.int r4.1] (Z, r4.2, L, O)
    refine ok_if_ne (t := 19) dX5_readChoice_14 (by decide) (fun hc6 => ?_) (fun hc6 => ?_)
    · have h := (if_neg hc6).symm.trans h
      refine ok_aload_n dX5_readChoice_19 0 rfl ?_
      have hT7 : Z[(rO O a0 1)]? = some (7, 7) := (wt_f (ci := 5) (k := 1) hW hZ0 rfl).2
      refine ok_getR (ci := 5) (k := 1) dX5_readChoice_20 flRX5_12 rfl hW hZ0 (by decide) ?_
      refine ok_bipush (v := 17) dX5_readChoice_23 (by decide) ?_
      obtain ⟨r8, hr9, h⟩ := bd h
      refine ok_callV (d := ((d + 2 + r) + 2)) (mt := m7_add) (mc := 0) (ms := 0) (As := [.int 17]) (r := []) dX5_readChoice_25 mo7_add mv7_add lkRX5_105 rfl hT7 (q := (RX7, TX7, 7)) rfl rfl rfl (Nat.le_of_ble_eq_true rfl) (by show _ + 1 ≤ d + _ + r + 1; omega) (Nat.le_refl _) (Nat.le_refl _) (pRt_mono ?_)
      refine k7_add (d + 2 + r) hW hT7 hr9 ?_
      intro _
      show Ok g _ Qx 28 [(0, .ref a0), (1, .int x1)] [.int r8.1] (Z, r8.2, L, O)
      refine ok_istore_n (l' := [(2, .int r8.1), (0, .ref a0), (1, .int x1)]) dX5_readChoice_28 rfl (Nat.le_of_ble_eq_true rfl) rfl ?_
      refine ok_aload_n dX5_readChoice_29 1 rfl ?_
      refine ok_iload_n dX5_readChoice_30 2 rfl ?_
      obtain ⟨r10, hr11, h⟩ := bd h
      refine ok_callV (d := (d + 4 + r)) (mt := m5_readSum) (mc := 0) (ms := 0) (As := [.int x1]) (r := []) dX5_readChoice_31 mo5_readSum mv5_readSum lkRX5_112 rfl hZ0 (q := (RX5, TX5, 8)) rfl rfl rfl (Nat.le_of_ble_eq_true rfl) (by show _ + 1 ≤ d + _ + r + 1; omega) (Nat.le_refl _) (Nat.le_refl _) (pRt_mono ?_)
      refine hrec 0 r8.2 _ _ _ _ hZ0 hr11 ?_
      intro hbr10
      show Ok g _ Qx 34 [(2, .int r8.1), (0, .ref a0), (1, .int x1)] [.int r10.1] (Z, r10.2, L, O)
      refine ok_if_eq (t := 46) dX5_readChoice_34 (by decide) (fun hc12 => ?_) (fun hc12 => ?_)
      · have h := (if_pos hc12).symm.trans h
        refine ok_iconst (v := 0) dX5_readChoice_46 (by decide) ?_
        cases h
        exact ok_iret dX5_readChoice_47 (hQ (Or.inl rfl))
      · have h := (if_neg hc12).symm.trans h
        refine ok_aload_n dX5_readChoice_37 1 rfl ?_
        refine ok_bipush (v := 18) dX5_readChoice_38 (by decide) ?_
        obtain ⟨r13, hr14, h⟩ := bd h
        refine ok_callV (d := ((d + 1 + r) + 3)) (mt := m5_expect) (mc := 0) (ms := 0) (As := [.int 18]) (r := []) dX5_readChoice_40 mo5_expect mv5_expect lkRX5_43 rfl hZ0 (q := (RX5, TX5, 8)) rfl rfl rfl (Nat.le_of_ble_eq_true rfl) (by show _ + 1 ≤ d + _ + r + 1; omega) (Nat.le_refl _) (Nat.le_refl _) (pRt_mono ?_)
        refine k5_expect (d + 1 + r) hW hZ0 hr14 ?_
        intro hbr13
        show Ok g _ Qx 43 [(2, .int r8.1), (0, .ref a0), (1, .int x1)] [.int r13.1] (Z, r13.2, L, O)
        refine ok_if_ne (t := 48) dX5_readChoice_43 (by decide) (fun hc15 => ?_) (fun hc15 => ?_)
        · have h := (if_neg hc15).symm.trans h
          refine ok_aload_n dX5_readChoice_48 1 rfl ?_
          refine ok_getR (ci := 5) (k := 1) dX5_readChoice_49 flRX5_12 rfl hW hZ0 (by decide) ?_
          refine ok_bipush (v := 18) dX5_readChoice_52 (by decide) ?_
          obtain ⟨r16, hr17, h⟩ := bd h
          refine ok_callV (d := ((d + 2 + r) + 2)) (mt := m7_add) (mc := 0) (ms := 0) (As := [.int 18]) (r := []) dX5_readChoice_54 mo7_add mv7_add lkRX5_105 rfl hT7 (q := (RX7, TX7, 7)) rfl rfl rfl (Nat.le_of_ble_eq_true rfl) (by show _ + 1 ≤ d + _ + r + 1; omega) (Nat.le_refl _) (Nat.le_refl _) (pRt_mono ?_)
          refine k7_add (d + 2 + r) hW hT7 hr17 ?_
          intro _
          show Ok g _ Qx 57 [(2, .int r8.1), (0, .ref a0), (1, .int x1)] [.int r16.1] (Z, r16.2, L, O)
          refine ok_istore_n (l' := [(3, .int r16.1), (2, .int r8.1), (0, .ref a0), (1, .int x1)]) dX5_readChoice_57 rfl (Nat.le_of_ble_eq_true rfl) rfl ?_
          refine ok_aload_n dX5_readChoice_58 2 rfl ?_
          refine ok_getR (ci := 5) (k := 1) dX5_readChoice_59 flRX5_12 rfl hW hZ0 (by decide) ?_
          refine ok_iload_n dX5_readChoice_62 1 rfl ?_
          obtain ⟨r18, hr19, h⟩ := bd h
          refine ok_callV (d := ((d + 2 + r) + 2)) (mt := m7_aim) (mc := 0) (ms := 0) (As := [.int r8.1]) (r := []) dX5_readChoice_63 mo7_aim mv7_aim lkRX5_136 rfl hT7 (q := (RX7, TX7, 7)) rfl rfl rfl (Nat.le_of_ble_eq_true rfl) (by show _ + 1 ≤ d + _ + r + 1; omega) (Nat.le_refl _) (Nat.le_refl _) (pRt_mono ?_)
          refine k7_aim (d + 2 + r) hW hT7 hr19 ?_
          intro _
          show Ok g _ Qx 66 [(3, .int r16.1), (2, .int r8.1), (0, .ref a0), (1, .int x1)] [] (Z, r18, L, O)
          refine ok_aload_n dX5_readChoice_66 2 rfl ?_
          refine ok_iload_n dX5_readChoice_67 3 rfl ?_
          obtain ⟨r20, hr21, h⟩ := bd h
          refine ok_callV (d := (d + 4 + r)) (mt := m5_readSum) (mc := 0) (ms := 0) (As := [.int x1]) (r := []) dX5_readChoice_68 mo5_readSum mv5_readSum lkRX5_112 rfl hZ0 (q := (RX5, TX5, 8)) rfl rfl rfl (Nat.le_of_ble_eq_true rfl) (by show _ + 1 ≤ d + _ + r + 1; omega) (Nat.le_refl _) (Nat.le_refl _) (pRt_mono ?_)
          refine hrec 0 r18 _ _ _ _ hZ0 hr21 ?_
          intro hbr20
          show Ok g _ Qx 71 [(3, .int r16.1), (2, .int r8.1), (0, .ref a0), (1, .int x1)] [.int r20.1] (Z, r20.2, L, O)
          refine ok_if_eq (t := 83) dX5_readChoice_71 (by decide) (fun hc22 => ?_) (fun hc22 => ?_)
          · have h := (if_pos hc22).symm.trans h
            refine ok_iconst (v := 0) dX5_readChoice_83 (by decide) ?_
            cases h
            exact ok_iret dX5_readChoice_84 (hQ (Or.inl rfl))
          · have h := (if_neg hc22).symm.trans h
            refine ok_aload_n dX5_readChoice_74 2 rfl ?_
            refine ok_bipush (v := 19) dX5_readChoice_75 (by decide) ?_
            obtain ⟨r23, hr24, h⟩ := bd h
            refine ok_callV (d := ((d + 1 + r) + 3)) (mt := m5_expect) (mc := 0) (ms := 0) (As := [.int 19]) (r := []) dX5_readChoice_77 mo5_expect mv5_expect lkRX5_43 rfl hZ0 (q := (RX5, TX5, 8)) rfl rfl rfl (Nat.le_of_ble_eq_true rfl) (by show _ + 1 ≤ d + _ + r + 1; omega) (Nat.le_refl _) (Nat.le_refl _) (pRt_mono ?_)
            refine k5_expect (d + 1 + r) hW hZ0 hr24 ?_
            intro hbr23
            show Ok g _ Qx 80 [(3, .int r16.1), (2, .int r8.1), (0, .ref a0), (1, .int x1)] [.int r23.1] (Z, r23.2, L, O)
            refine ok_if_ne (t := 85) dX5_readChoice_80 (by decide) (fun hc25 => ?_) (fun hc25 => ?_)
            · have h := (if_neg hc25).symm.trans h
              refine ok_aload_n dX5_readChoice_85 2 rfl ?_
              refine ok_getR (ci := 5) (k := 1) dX5_readChoice_86 flRX5_12 rfl hW hZ0 (by decide) ?_
              refine ok_iload_n dX5_readChoice_89 0 rfl ?_
              obtain ⟨r26, hr27, h⟩ := bd h
              refine ok_callV (d := ((d + 2 + r) + 2)) (mt := m7_aim) (mc := 0) (ms := 0) (As := [.int r16.1]) (r := []) dX5_readChoice_90 mo7_aim mv7_aim lkRX5_136 rfl hT7 (q := (RX7, TX7, 7)) rfl rfl rfl (Nat.le_of_ble_eq_true rfl) (by show _ + 1 ≤ d + _ + r + 1; omega) (Nat.le_refl _) (Nat.le_refl _) (pRt_mono ?_)
              refine k7_aim (d + 2 + r) hW hT7 hr27 ?_
              intro _
              show Ok g _ Qx 93 [(3, .int r16.1), (2, .int r8.1), (0, .ref a0), (1, .int x1)] [] (Z, r26, L, O)
              refine ok_iconst (v := 1) dX5_readChoice_93 (by decide) ?_
              cases h
              exact ok_iret dX5_readChoice_94 (hQ (Or.inr rfl))
            · have h := (if_pos hc25).symm.trans h
              refine ok_iconst (v := 0) dX5_readChoice_83 (by decide) ?_
              cases h
              exact ok_iret dX5_readChoice_84 (hQ (Or.inl rfl))
        · have h := (if_pos hc15).symm.trans h
          refine ok_iconst (v := 0) dX5_readChoice_46 (by decide) ?_
          cases h
          exact ok_iret dX5_readChoice_47 (hQ (Or.inl rfl))
    · have h := (if_pos hc6).symm.trans h
      refine ok_iconst (v := 0) dX5_readChoice_17 (by decide) ?_
      cases h
      exact ok_iret dX5_readChoice_18 (hQ (Or.inl rfl))
def f5_readEither_c12 (n : Nat) (O : (Nat → Nat → Option Nat)) (rec : Nat → (Nat → Nat → Int32) → Nat → Int32 → Option (Int32 × (Nat → Nat → Int32))) : Nat → (Nat → Nat → Int32) → Nat → Int32 → Int32 → Option (Int32 × (Nat → Nat → Int32))
  | 0, _, _, _, _ => none
  | m + 1, I, b0, y1, y2 => (if (300 : Int32) ≤ y2 then some ((1 : Int32), I) else (if (I b0 3) = (20 : Int32) then (f5_comeTo I O b0 ((I b0 2) + 1)).bind fun r3 => (rec 5 r3 b0 y1).bind fun r5 => (if r5.1 = 0 then some ((0 : Int32), r5.2) else (f7_add r5.2 O (rO O b0 1) (20 : Int32)).bind fun r9 => f5_readEither_c12 n O rec m r9.2 b0 y1 (y2 + 1)) else some ((1 : Int32), I)))
set_option maxHeartbeats 4000000 in
set_option maxRecDepth 20000 in
theorem o5_readEither_c12 {g : pG} {Qx : Option Value → pW → Prop} {Z : pZ} {L : (Nat → Nat → Int64)} {O : (Nat → Nat → Option Nat)} {n : Nat} {rec : Nat → (Nat → Nat → Int32) → Nat → Int32 → Option (Int32 × (Nat → Nat → Int32))} {res : Int32 × (Nat → Nat → Int32)} (d : Nat) (r : Nat) (hrec : ∀ (t : Nat) (I : (Nat → Nat → Int32)) (a0 : Nat) (x1 : Int32) (res : Int32 × (Nat → Nat → Int32)) (Q : Option Value → pW → Prop), (Z[a0]? = some (5, 8)) → rec t I a0 x1 = some res → Q (some (.int res.1)) (Z, res.2, L, O) → CT g (d + 4 + r) (mt5 t) 0 0 [.ref a0, .int x1] (Z, I, L, O) Q) (hW : WT Z O) (hQ : (res.1 = 0 ∨ res.1 = 1) → Qx (some (.int res.1)) (Z, res.2, L, O)) : ∀ (m : Nat) (I : (Nat → Nat → Int32)) (b0 : Nat) (y1 : Int32) (y2 : Int32), (Z[b0]? = some (5, 8)) → f5_readEither_c12 n O rec m I b0 y1 y2 = some res → Ok g (d + 4 + r + 1, RX5, cX5_readEither, 3, false, 0, 0, Z.length, pSl Z) Qx 12 [(0, .ref b0), (1, .int y1), (2, .int y2)] [] (Z, I, L, O) := by
  intro m
  induction m with
  | zero => intro I b0 y1 y2 hZ_b0 h; rw [f5_readEither_c12] at h; cases h
  | succ m ih =>
    intro I b0 y1 y2 hZ_b0 h
    rw [f5_readEither_c12] at h
    refine ok_iload_n dX5_readEither_12 2 rfl ?_
    refine ok_sipush (v := 300) dX5_readEither_13 (by decide) ?_
    refine ok_icmp_ge (t := 64) dX5_readEither_16 (by decide) (fun hc1 => ?_) (fun hc1 => ?_)
    · have h := (if_pos hc1).symm.trans h
      refine ok_iconst (v := 1) dX5_readEither_64 (by decide) ?_
      cases h
      exact ok_iret dX5_readEither_65 (hQ (Or.inr rfl))
    · have h := (if_neg hc1).symm.trans h
      refine ok_aload_n dX5_readEither_19 0 rfl ?_
      refine ok_getI (ci := 5) (k := 3) dX5_readEither_20 flRX5_36 rfl hZ_b0 (by decide) ?_
      refine ok_bipush (v := 20) dX5_readEither_23 (by decide) ?_
      refine ok_icmp_ne (t := 64) dX5_readEither_25 (by decide) (fun hc2 => ?_) (fun hc2 => ?_)
      · have h := (if_neg hc2).symm.trans h
        refine ok_iconst (v := 1) dX5_readEither_64 (by decide) ?_
        cases h
        exact ok_iret dX5_readEither_65 (hQ (Or.inr rfl))
      · have h := (if_pos hc2).symm.trans h
        refine ok_aload_n dX5_readEither_28 0 rfl ?_
        refine ok_aload_n dX5_readEither_29 0 rfl ?_
        refine ok_getI (ci := 5) (k := 2) dX5_readEither_30 flRX5_47 rfl hZ_b0 (by decide) ?_
        refine ok_iconst (v := 1) dX5_readEither_33 (by decide) ?_
        refine ok_iadd dX5_readEither_34 ?_
        obtain ⟨r3, hr4, h⟩ := bd h
        refine ok_callV (d := ((d + 2 + r) + 2)) (mt := m5_comeTo) (mc := 0) (ms := 0) (As := [.int ((I b0 2) + 1)]) (r := []) dX5_readEither_35 mo5_comeTo mv5_comeTo lkRX5_32 rfl hZ_b0 (q := (RX5, TX5, 8)) rfl rfl rfl (Nat.le_of_ble_eq_true rfl) (by show _ + 1 ≤ d + _ + r + 1; omega) (Nat.le_refl _) (Nat.le_refl _) (pRt_mono ?_)
        refine k5_comeTo (d + 2 + r) hW hZ_b0 hr4 ?_
        intro _
        show Ok g _ Qx 38 [(0, .ref b0), (1, .int y1), (2, .int y2)] [] (Z, r3, L, O)
        refine ok_aload_n dX5_readEither_38 0 rfl ?_
        refine ok_iload_n dX5_readEither_39 1 rfl ?_
        obtain ⟨r5, hr6, h⟩ := bd h
        refine ok_callV (d := (d + 4 + r)) (mt := m5_readBoth) (mc := 0) (ms := 0) (As := [.int y1]) (r := []) dX5_readEither_40 mo5_readBoth mv5_readBoth lkRX5_139 rfl hZ_b0 (q := (RX5, TX5, 8)) rfl rfl rfl (Nat.le_of_ble_eq_true rfl) (by show _ + 1 ≤ d + _ + r + 1; omega) (Nat.le_refl _) (Nat.le_refl _) (pRt_mono ?_)
        refine hrec 5 r3 _ _ _ _ hZ_b0 hr6 ?_
        intro hbr5
        show Ok g _ Qx 43 [(0, .ref b0), (1, .int y1), (2, .int y2)] [.int r5.1] (Z, r5.2, L, O)
        refine ok_if_ne (t := 48) dX5_readEither_43 (by decide) (fun hc7 => ?_) (fun hc7 => ?_)
        · have h := (if_neg hc7).symm.trans h
          refine ok_aload_n dX5_readEither_48 0 rfl ?_
          have hT8 : Z[(rO O b0 1)]? = some (7, 7) := (wt_f (ci := 5) (k := 1) hW hZ_b0 rfl).2
          refine ok_getR (ci := 5) (k := 1) dX5_readEither_49 flRX5_12 rfl hW hZ_b0 (by decide) ?_
          refine ok_bipush (v := 20) dX5_readEither_52 (by decide) ?_
          obtain ⟨r9, hr10, h⟩ := bd h
          refine ok_callV (d := ((d + 2 + r) + 2)) (mt := m7_add) (mc := 0) (ms := 0) (As := [.int 20]) (r := []) dX5_readEither_54 mo7_add mv7_add lkRX5_105 rfl hT8 (q := (RX7, TX7, 7)) rfl rfl rfl (Nat.le_of_ble_eq_true rfl) (by show _ + 1 ≤ d + _ + r + 1; omega) (Nat.le_refl _) (Nat.le_refl _) (pRt_mono ?_)
          refine k7_add (d + 2 + r) hW hT8 hr10 ?_
          intro _
          show Ok g _ Qx 57 [(0, .ref b0), (1, .int y1), (2, .int y2)] [.int r9.1] (Z, r9.2, L, O)
          refine ok_pop dX5_readEither_57 rfl ?_
          refine ok_iinc (u := (y2 + 1)) (l' := [(2, .int (y2 + 1)), (0, .ref b0), (1, .int y1)]) dX5_readEither_58 2 rfl rfl (Nat.le_of_ble_eq_true rfl) rfl ?_
          refine ok_goto (t := 12) dX5_readEither_61 (by decide) ?_
          refine ok_sub [1, 2, 0] rfl ?_
          exact ih r9.2 b0 y1 (y2 + 1) hZ_b0 h
        · have h := (if_pos hc7).symm.trans h
          refine ok_iconst (v := 0) dX5_readEither_46 (by decide) ?_
          cases h
          exact ok_iret dX5_readEither_47 (hQ (Or.inl rfl))
def f5_readEither_b (n : Nat) (I : (Nat → Nat → Int32)) (O : (Nat → Nat → Option Nat)) (rec : Nat → (Nat → Nat → Int32) → Nat → Int32 → Option (Int32 × (Nat → Nat → Int32))) (a0 : Nat) (x1 : Int32) : Option (Int32 × (Nat → Nat → Int32)) := (rec 5 I a0 x1).bind fun r1 => (if r1.1 = 0 then some ((0 : Int32), r1.2) else f5_readEither_c12 n O rec n r1.2 a0 x1 (0 : Int32))
set_option maxHeartbeats 4000000 in
set_option maxRecDepth 20000 in
theorem o5_readEither {g : pG} {Qx : Option Value → pW → Prop} {Z : pZ} {I : (Nat → Nat → Int32)} {L : (Nat → Nat → Int64)} {O : (Nat → Nat → Option Nat)} {n : Nat} {rec : Nat → (Nat → Nat → Int32) → Nat → Int32 → Option (Int32 × (Nat → Nat → Int32))} {a0 : Nat} {x1 : Int32} {res : Int32 × (Nat → Nat → Int32)} (d : Nat) (r : Nat) (hrec : ∀ (t : Nat) (I : (Nat → Nat → Int32)) (a0 : Nat) (x1 : Int32) (res : Int32 × (Nat → Nat → Int32)) (Q : Option Value → pW → Prop), (Z[a0]? = some (5, 8)) → rec t I a0 x1 = some res → Q (some (.int res.1)) (Z, res.2, L, O) → CT g (d + 4 + r) (mt5 t) 0 0 [.ref a0, .int x1] (Z, I, L, O) Q) (hW : WT Z O) (hZ0 : Z[a0]? = some (5, 8)) (h : f5_readEither_b n I O rec a0 x1 = some res) (hQ : (res.1 = 0 ∨ res.1 = 1) → Qx (some (.int res.1)) (Z, res.2, L, O)) : Ok g (d + 4 + r + 1, RX5, cX5_readEither, 3, false, 0, 0, Z.length, pSl Z) Qx 0 [(0, .ref a0), (1, .int x1)] [] (Z, I, L, O) := by
  unfold f5_readEither_b at h
  refine ok_aload_n dX5_readEither_0 0 rfl ?_
  refine ok_iload_n dX5_readEither_1 1 rfl ?_
  obtain ⟨r1, hr2, h⟩ := bd h
  refine ok_callV (d := (d + 4 + r)) (mt := m5_readBoth) (mc := 0) (ms := 0) (As := [.int x1]) (r := []) dX5_readEither_2 mo5_readBoth mv5_readBoth lkRX5_139 rfl hZ0 (q := (RX5, TX5, 8)) rfl rfl rfl (Nat.le_of_ble_eq_true rfl) (by show _ + 1 ≤ d + _ + r + 1; omega) (Nat.le_refl _) (Nat.le_refl _) (pRt_mono ?_)
  refine hrec 5 I _ _ _ _ hZ0 hr2 ?_
  intro hbr1
  show Ok g _ Qx 5 [(0, .ref a0), (1, .int x1)] [.int r1.1] (Z, r1.2, L, O)
  refine ok_if_ne (t := 10) dX5_readEither_5 (by decide) (fun hc3 => ?_) (fun hc3 => ?_)
  · have h := (if_neg hc3).symm.trans h
    refine ok_iconst (v := 0) dX5_readEither_10 (by decide) ?_
    refine ok_istore_n (l' := [(2, .int 0), (0, .ref a0), (1, .int x1)]) dX5_readEither_11 rfl (Nat.le_of_ble_eq_true rfl) rfl ?_
    refine ok_sub [1, 2, 0] rfl ?_
    exact o5_readEither_c12 d r hrec hW hQ  n r1.2 a0 x1 (0 : Int32) hZ0 h
  · have h := (if_pos hc3).symm.trans h
    refine ok_iconst (v := 0) dX5_readEither_8 (by decide) ?_
    cases h
    exact ok_iret dX5_readEither_9 (hQ (Or.inl rfl))
def f5_readBoth_c12 (n : Nat) (O : (Nat → Nat → Option Nat)) (rec : Nat → (Nat → Nat → Int32) → Nat → Int32 → Option (Int32 × (Nat → Nat → Int32))) : Nat → (Nat → Nat → Int32) → Nat → Int32 → Int32 → Option (Int32 × (Nat → Nat → Int32))
  | 0, _, _, _, _ => none
  | m + 1, I, b0, y1, y2 => (if (300 : Int32) ≤ y2 then some ((1 : Int32), I) else (if (I b0 3) = (21 : Int32) then (f5_comeTo I O b0 ((I b0 2) + 1)).bind fun r3 => (rec 6 r3 b0 y1).bind fun r5 => (if r5.1 = 0 then some ((0 : Int32), r5.2) else (f7_add r5.2 O (rO O b0 1) (21 : Int32)).bind fun r9 => f5_readBoth_c12 n O rec m r9.2 b0 y1 (y2 + 1)) else some ((1 : Int32), I)))
set_option maxHeartbeats 4000000 in
set_option maxRecDepth 20000 in
theorem o5_readBoth_c12 {g : pG} {Qx : Option Value → pW → Prop} {Z : pZ} {L : (Nat → Nat → Int64)} {O : (Nat → Nat → Option Nat)} {n : Nat} {rec : Nat → (Nat → Nat → Int32) → Nat → Int32 → Option (Int32 × (Nat → Nat → Int32))} {res : Int32 × (Nat → Nat → Int32)} (d : Nat) (r : Nat) (hrec : ∀ (t : Nat) (I : (Nat → Nat → Int32)) (a0 : Nat) (x1 : Int32) (res : Int32 × (Nat → Nat → Int32)) (Q : Option Value → pW → Prop), (Z[a0]? = some (5, 8)) → rec t I a0 x1 = some res → Q (some (.int res.1)) (Z, res.2, L, O) → CT g (d + 4 + r) (mt5 t) 0 0 [.ref a0, .int x1] (Z, I, L, O) Q) (hW : WT Z O) (hQ : (res.1 = 0 ∨ res.1 = 1) → Qx (some (.int res.1)) (Z, res.2, L, O)) : ∀ (m : Nat) (I : (Nat → Nat → Int32)) (b0 : Nat) (y1 : Int32) (y2 : Int32), (Z[b0]? = some (5, 8)) → f5_readBoth_c12 n O rec m I b0 y1 y2 = some res → Ok g (d + 4 + r + 1, RX5, cX5_readBoth, 3, false, 0, 0, Z.length, pSl Z) Qx 12 [(0, .ref b0), (1, .int y1), (2, .int y2)] [] (Z, I, L, O) := by
  intro m
  induction m with
  | zero => intro I b0 y1 y2 hZ_b0 h; rw [f5_readBoth_c12] at h; cases h
  | succ m ih =>
    intro I b0 y1 y2 hZ_b0 h
    rw [f5_readBoth_c12] at h
    refine ok_iload_n dX5_readBoth_12 2 rfl ?_
    refine ok_sipush (v := 300) dX5_readBoth_13 (by decide) ?_
    refine ok_icmp_ge (t := 64) dX5_readBoth_16 (by decide) (fun hc1 => ?_) (fun hc1 => ?_)
    · have h := (if_pos hc1).symm.trans h
      refine ok_iconst (v := 1) dX5_readBoth_64 (by decide) ?_
      cases h
      exact ok_iret dX5_readBoth_65 (hQ (Or.inr rfl))
    · have h := (if_neg hc1).symm.trans h
      refine ok_aload_n dX5_readBoth_19 0 rfl ?_
      refine ok_getI (ci := 5) (k := 3) dX5_readBoth_20 flRX5_36 rfl hZ_b0 (by decide) ?_
      refine ok_bipush (v := 21) dX5_readBoth_23 (by decide) ?_
      refine ok_icmp_ne (t := 64) dX5_readBoth_25 (by decide) (fun hc2 => ?_) (fun hc2 => ?_)
      · have h := (if_neg hc2).symm.trans h
        refine ok_iconst (v := 1) dX5_readBoth_64 (by decide) ?_
        cases h
        exact ok_iret dX5_readBoth_65 (hQ (Or.inr rfl))
      · have h := (if_pos hc2).symm.trans h
        refine ok_aload_n dX5_readBoth_28 0 rfl ?_
        refine ok_aload_n dX5_readBoth_29 0 rfl ?_
        refine ok_getI (ci := 5) (k := 2) dX5_readBoth_30 flRX5_47 rfl hZ_b0 (by decide) ?_
        refine ok_iconst (v := 1) dX5_readBoth_33 (by decide) ?_
        refine ok_iadd dX5_readBoth_34 ?_
        obtain ⟨r3, hr4, h⟩ := bd h
        refine ok_callV (d := ((d + 2 + r) + 2)) (mt := m5_comeTo) (mc := 0) (ms := 0) (As := [.int ((I b0 2) + 1)]) (r := []) dX5_readBoth_35 mo5_comeTo mv5_comeTo lkRX5_32 rfl hZ_b0 (q := (RX5, TX5, 8)) rfl rfl rfl (Nat.le_of_ble_eq_true rfl) (by show _ + 1 ≤ d + _ + r + 1; omega) (Nat.le_refl _) (Nat.le_refl _) (pRt_mono ?_)
        refine k5_comeTo (d + 2 + r) hW hZ_b0 hr4 ?_
        intro _
        show Ok g _ Qx 38 [(0, .ref b0), (1, .int y1), (2, .int y2)] [] (Z, r3, L, O)
        refine ok_aload_n dX5_readBoth_38 0 rfl ?_
        refine ok_iload_n dX5_readBoth_39 1 rfl ?_
        obtain ⟨r5, hr6, h⟩ := bd h
        refine ok_callV (d := (d + 4 + r)) (mt := m5_readAsk) (mc := 0) (ms := 0) (As := [.int y1]) (r := []) dX5_readBoth_40 mo5_readAsk mv5_readAsk lkRX5_142 rfl hZ_b0 (q := (RX5, TX5, 8)) rfl rfl rfl (Nat.le_of_ble_eq_true rfl) (by show _ + 1 ≤ d + _ + r + 1; omega) (Nat.le_refl _) (Nat.le_refl _) (pRt_mono ?_)
        refine hrec 6 r3 _ _ _ _ hZ_b0 hr6 ?_
        intro hbr5
        show Ok g _ Qx 43 [(0, .ref b0), (1, .int y1), (2, .int y2)] [.int r5.1] (Z, r5.2, L, O)
        refine ok_if_ne (t := 48) dX5_readBoth_43 (by decide) (fun hc7 => ?_) (fun hc7 => ?_)
        · have h := (if_neg hc7).symm.trans h
          refine ok_aload_n dX5_readBoth_48 0 rfl ?_
          have hT8 : Z[(rO O b0 1)]? = some (7, 7) := (wt_f (ci := 5) (k := 1) hW hZ_b0 rfl).2
          refine ok_getR (ci := 5) (k := 1) dX5_readBoth_49 flRX5_12 rfl hW hZ_b0 (by decide) ?_
          refine ok_bipush (v := 21) dX5_readBoth_52 (by decide) ?_
          obtain ⟨r9, hr10, h⟩ := bd h
          refine ok_callV (d := ((d + 2 + r) + 2)) (mt := m7_add) (mc := 0) (ms := 0) (As := [.int 21]) (r := []) dX5_readBoth_54 mo7_add mv7_add lkRX5_105 rfl hT8 (q := (RX7, TX7, 7)) rfl rfl rfl (Nat.le_of_ble_eq_true rfl) (by show _ + 1 ≤ d + _ + r + 1; omega) (Nat.le_refl _) (Nat.le_refl _) (pRt_mono ?_)
          refine k7_add (d + 2 + r) hW hT8 hr10 ?_
          intro _
          show Ok g _ Qx 57 [(0, .ref b0), (1, .int y1), (2, .int y2)] [.int r9.1] (Z, r9.2, L, O)
          refine ok_pop dX5_readBoth_57 rfl ?_
          refine ok_iinc (u := (y2 + 1)) (l' := [(2, .int (y2 + 1)), (0, .ref b0), (1, .int y1)]) dX5_readBoth_58 2 rfl rfl (Nat.le_of_ble_eq_true rfl) rfl ?_
          refine ok_goto (t := 12) dX5_readBoth_61 (by decide) ?_
          refine ok_sub [1, 2, 0] rfl ?_
          exact ih r9.2 b0 y1 (y2 + 1) hZ_b0 h
        · have h := (if_pos hc7).symm.trans h
          refine ok_iconst (v := 0) dX5_readBoth_46 (by decide) ?_
          cases h
          exact ok_iret dX5_readBoth_47 (hQ (Or.inl rfl))
def f5_readBoth_b (n : Nat) (I : (Nat → Nat → Int32)) (O : (Nat → Nat → Option Nat)) (rec : Nat → (Nat → Nat → Int32) → Nat → Int32 → Option (Int32 × (Nat → Nat → Int32))) (a0 : Nat) (x1 : Int32) : Option (Int32 × (Nat → Nat → Int32)) := (rec 6 I a0 x1).bind fun r1 => (if r1.1 = 0 then some ((0 : Int32), r1.2) else f5_readBoth_c12 n O rec n r1.2 a0 x1 (0 : Int32))
set_option maxHeartbeats 4000000 in
set_option maxRecDepth 20000 in
theorem o5_readBoth {g : pG} {Qx : Option Value → pW → Prop} {Z : pZ} {I : (Nat → Nat → Int32)} {L : (Nat → Nat → Int64)} {O : (Nat → Nat → Option Nat)} {n : Nat} {rec : Nat → (Nat → Nat → Int32) → Nat → Int32 → Option (Int32 × (Nat → Nat → Int32))} {a0 : Nat} {x1 : Int32} {res : Int32 × (Nat → Nat → Int32)} (d : Nat) (r : Nat) (hrec : ∀ (t : Nat) (I : (Nat → Nat → Int32)) (a0 : Nat) (x1 : Int32) (res : Int32 × (Nat → Nat → Int32)) (Q : Option Value → pW → Prop), (Z[a0]? = some (5, 8)) → rec t I a0 x1 = some res → Q (some (.int res.1)) (Z, res.2, L, O) → CT g (d + 4 + r) (mt5 t) 0 0 [.ref a0, .int x1] (Z, I, L, O) Q) (hW : WT Z O) (hZ0 : Z[a0]? = some (5, 8)) (h : f5_readBoth_b n I O rec a0 x1 = some res) (hQ : (res.1 = 0 ∨ res.1 = 1) → Qx (some (.int res.1)) (Z, res.2, L, O)) : Ok g (d + 4 + r + 1, RX5, cX5_readBoth, 3, false, 0, 0, Z.length, pSl Z) Qx 0 [(0, .ref a0), (1, .int x1)] [] (Z, I, L, O) := by
  unfold f5_readBoth_b at h
  refine ok_aload_n dX5_readBoth_0 0 rfl ?_
  refine ok_iload_n dX5_readBoth_1 1 rfl ?_
  obtain ⟨r1, hr2, h⟩ := bd h
  refine ok_callV (d := (d + 4 + r)) (mt := m5_readAsk) (mc := 0) (ms := 0) (As := [.int x1]) (r := []) dX5_readBoth_2 mo5_readAsk mv5_readAsk lkRX5_142 rfl hZ0 (q := (RX5, TX5, 8)) rfl rfl rfl (Nat.le_of_ble_eq_true rfl) (by show _ + 1 ≤ d + _ + r + 1; omega) (Nat.le_refl _) (Nat.le_refl _) (pRt_mono ?_)
  refine hrec 6 I _ _ _ _ hZ0 hr2 ?_
  intro hbr1
  show Ok g _ Qx 5 [(0, .ref a0), (1, .int x1)] [.int r1.1] (Z, r1.2, L, O)
  refine ok_if_ne (t := 10) dX5_readBoth_5 (by decide) (fun hc3 => ?_) (fun hc3 => ?_)
  · have h := (if_neg hc3).symm.trans h
    refine ok_iconst (v := 0) dX5_readBoth_10 (by decide) ?_
    refine ok_istore_n (l' := [(2, .int 0), (0, .ref a0), (1, .int x1)]) dX5_readBoth_11 rfl (Nat.le_of_ble_eq_true rfl) rfl ?_
    refine ok_sub [1, 2, 0] rfl ?_
    exact o5_readBoth_c12 d r hrec hW hQ  n r1.2 a0 x1 (0 : Int32) hZ0 h
  · have h := (if_pos hc3).symm.trans h
    refine ok_iconst (v := 0) dX5_readBoth_8 (by decide) ?_
    cases h
    exact ok_iret dX5_readBoth_9 (hQ (Or.inl rfl))
def f5_readAsk_b (n : Nat) (I : (Nat → Nat → Int32)) (O : (Nat → Nat → Option Nat)) (rec : Nat → (Nat → Nat → Int32) → Nat → Int32 → Option (Int32 × (Nat → Nat → Int32))) (a0 : Nat) (x1 : Int32) : Option (Int32 × (Nat → Nat → Int32)) := (if (I a0 3) = (22 : Int32) then (f5_enter I O a0 x1).bind fun r18 => (if r18.1 = 0 then some ((0 : Int32), r18.2) else (rec 6 r18.2 a0 (x1 + 1)).bind fun r21 => (if r21.1 = 0 then some ((0 : Int32), r21.2) else (f7_add r21.2 O (rO O a0 1) (22 : Int32)).bind fun r25 => some ((1 : Int32), r25.2))) else (rec 0 I a0 x1).bind fun r2 => (if r2.1 = 0 then some ((0 : Int32), r2.2) else (f5_compares (r2.2 a0 3)).bind fun r5 => (if r5 = 0 then (f5_refuse r2.2 O a0 (1 : Int32)).bind fun r16 => some (r16.1, r16.2) else (f5_comeTo r2.2 O a0 ((r2.2 a0 2) + 1)).bind fun r8 => (rec 0 r8 a0 x1).bind fun r10 => (if r10.1 = 0 then some ((0 : Int32), r10.2) else (f7_add r10.2 O (rO O a0 1) (r2.2 a0 3)).bind fun r14 => some ((1 : Int32), r14.2)))))
set_option maxHeartbeats 4000000 in
set_option maxRecDepth 20000 in
theorem o5_readAsk {g : pG} {Qx : Option Value → pW → Prop} {Z : pZ} {I : (Nat → Nat → Int32)} {L : (Nat → Nat → Int64)} {O : (Nat → Nat → Option Nat)} {n : Nat} {rec : Nat → (Nat → Nat → Int32) → Nat → Int32 → Option (Int32 × (Nat → Nat → Int32))} {a0 : Nat} {x1 : Int32} {res : Int32 × (Nat → Nat → Int32)} (d : Nat) (r : Nat) (hrec : ∀ (t : Nat) (I : (Nat → Nat → Int32)) (a0 : Nat) (x1 : Int32) (res : Int32 × (Nat → Nat → Int32)) (Q : Option Value → pW → Prop), (Z[a0]? = some (5, 8)) → rec t I a0 x1 = some res → Q (some (.int res.1)) (Z, res.2, L, O) → CT g (d + 4 + r) (mt5 t) 0 0 [.ref a0, .int x1] (Z, I, L, O) Q) (hW : WT Z O) (hZ0 : Z[a0]? = some (5, 8)) (h : f5_readAsk_b n I O rec a0 x1 = some res) (hQ : (res.1 = 0 ∨ res.1 = 1) → Qx (some (.int res.1)) (Z, res.2, L, O)) : Ok g (d + 4 + r + 1, RX5, cX5_readAsk, 3, false, 0, 0, Z.length, pSl Z) Qx 0 [(0, .ref a0), (1, .int x1)] [] (Z, I, L, O) := by
  unfold f5_readAsk_b at h
  refine ok_aload_n dX5_readAsk_0 0 rfl ?_
  refine ok_getI (ci := 5) (k := 3) dX5_readAsk_1 flRX5_36 rfl hZ0 (by decide) ?_
  refine ok_bipush (v := 22) dX5_readAsk_4 (by decide) ?_
  refine ok_icmp_ne (t := 41) dX5_readAsk_6 (by decide) (fun hc1 => ?_) (fun hc1 => ?_)
  · have h := (if_neg hc1).symm.trans h
    refine ok_aload_n dX5_readAsk_41 0 rfl ?_
    refine ok_iload_n dX5_readAsk_42 1 rfl ?_
    obtain ⟨r2, hr3, h⟩ := bd h
    refine ok_callV (d := (d + 4 + r)) (mt := m5_readSum) (mc := 0) (ms := 0) (As := [.int x1]) (r := []) dX5_readAsk_43 mo5_readSum mv5_readSum lkRX5_112 rfl hZ0 (q := (RX5, TX5, 8)) rfl rfl rfl (Nat.le_of_ble_eq_true rfl) (by show _ + 1 ≤ d + _ + r + 1; omega) (Nat.le_refl _) (Nat.le_refl _) (pRt_mono ?_)
    refine hrec 0 I _ _ _ _ hZ0 hr3 ?_
    intro hbr2
    show Ok g _ Qx 46 [(0, .ref a0), (1, .int x1)] [.int r2.1] (Z, r2.2, L, O)
    refine ok_if_ne (t := 51) dX5_readAsk_46 (by decide) (fun hc4 => ?_) (fun hc4 => ?_)
    · have h := (if_neg hc4).symm.trans h
      refine ok_aload_n dX5_readAsk_51 0 rfl ?_
      refine ok_getI (ci := 5) (k := 3) dX5_readAsk_52 flRX5_36 rfl hZ0 (by decide) ?_
      refine ok_istore_n (l' := [(2, .int (r2.2 a0 3)), (0, .ref a0), (1, .int x1)]) dX5_readAsk_55 rfl (Nat.le_of_ble_eq_true rfl) rfl ?_
      refine ok_iload_n dX5_readAsk_56 0 rfl ?_
      obtain ⟨r5, hr6, h⟩ := bd h
      refine ok_callS (d := ((d + 2 + r) + 2)) (mt := m5_compares) (mc := 0) (ms := 0) (As := [.int (r2.2 a0 3)]) (r := []) dX5_readAsk_57 mo5_compares mv5_compares lkRX5_145 rfl rfl (Nat.le_of_ble_eq_true rfl) (by show _ + 1 ≤ d + _ + r + 1; omega) (Nat.le_refl _) (Nat.le_refl _) (pRt_mono ?_)
      refine k5_compares (d + 2 + r) hW  hr6 ?_
      intro hbr5
      show Ok g _ Qx 60 [(2, .int (r2.2 a0 3)), (0, .ref a0), (1, .int x1)] [.int r5] (Z, r2.2, L, O)
      refine ok_if_ne (t := 69) dX5_readAsk_60 (by decide) (fun hc7 => ?_) (fun hc7 => ?_)
      · have h := (if_neg hc7).symm.trans h
        refine ok_aload_n dX5_readAsk_69 1 rfl ?_
        refine ok_aload_n dX5_readAsk_70 1 rfl ?_
        refine ok_getI (ci := 5) (k := 2) dX5_readAsk_71 flRX5_47 rfl hZ0 (by decide) ?_
        refine ok_iconst (v := 1) dX5_readAsk_74 (by decide) ?_
        refine ok_iadd dX5_readAsk_75 ?_
        obtain ⟨r8, hr9, h⟩ := bd h
        refine ok_callV (d := ((d + 2 + r) + 2)) (mt := m5_comeTo) (mc := 0) (ms := 0) (As := [.int ((r2.2 a0 2) + 1)]) (r := []) dX5_readAsk_76 mo5_comeTo mv5_comeTo lkRX5_32 rfl hZ0 (q := (RX5, TX5, 8)) rfl rfl rfl (Nat.le_of_ble_eq_true rfl) (by show _ + 1 ≤ d + _ + r + 1; omega) (Nat.le_refl _) (Nat.le_refl _) (pRt_mono ?_)
        refine k5_comeTo (d + 2 + r) hW hZ0 hr9 ?_
        intro _
        show Ok g _ Qx 79 [(2, .int (r2.2 a0 3)), (0, .ref a0), (1, .int x1)] [] (Z, r8, L, O)
        refine ok_aload_n dX5_readAsk_79 1 rfl ?_
        refine ok_iload_n dX5_readAsk_80 2 rfl ?_
        obtain ⟨r10, hr11, h⟩ := bd h
        refine ok_callV (d := (d + 4 + r)) (mt := m5_readSum) (mc := 0) (ms := 0) (As := [.int x1]) (r := []) dX5_readAsk_81 mo5_readSum mv5_readSum lkRX5_112 rfl hZ0 (q := (RX5, TX5, 8)) rfl rfl rfl (Nat.le_of_ble_eq_true rfl) (by show _ + 1 ≤ d + _ + r + 1; omega) (Nat.le_refl _) (Nat.le_refl _) (pRt_mono ?_)
        refine hrec 0 r8 _ _ _ _ hZ0 hr11 ?_
        intro hbr10
        show Ok g _ Qx 84 [(2, .int (r2.2 a0 3)), (0, .ref a0), (1, .int x1)] [.int r10.1] (Z, r10.2, L, O)
        refine ok_if_ne (t := 89) dX5_readAsk_84 (by decide) (fun hc12 => ?_) (fun hc12 => ?_)
        · have h := (if_neg hc12).symm.trans h
          refine ok_aload_n dX5_readAsk_89 1 rfl ?_
          have hT13 : Z[(rO O a0 1)]? = some (7, 7) := (wt_f (ci := 5) (k := 1) hW hZ0 rfl).2
          refine ok_getR (ci := 5) (k := 1) dX5_readAsk_90 flRX5_12 rfl hW hZ0 (by decide) ?_
          refine ok_iload_n dX5_readAsk_93 0 rfl ?_
          obtain ⟨r14, hr15, h⟩ := bd h
          refine ok_callV (d := ((d + 2 + r) + 2)) (mt := m7_add) (mc := 0) (ms := 0) (As := [.int (r2.2 a0 3)]) (r := []) dX5_readAsk_94 mo7_add mv7_add lkRX5_105 rfl hT13 (q := (RX7, TX7, 7)) rfl rfl rfl (Nat.le_of_ble_eq_true rfl) (by show _ + 1 ≤ d + _ + r + 1; omega) (Nat.le_refl _) (Nat.le_refl _) (pRt_mono ?_)
          refine k7_add (d + 2 + r) hW hT13 hr15 ?_
          intro _
          show Ok g _ Qx 97 [(2, .int (r2.2 a0 3)), (0, .ref a0), (1, .int x1)] [.int r14.1] (Z, r14.2, L, O)
          refine ok_pop dX5_readAsk_97 rfl ?_
          refine ok_iconst (v := 1) dX5_readAsk_98 (by decide) ?_
          cases h
          exact ok_iret dX5_readAsk_99 (hQ (Or.inr rfl))
        · have h := (if_pos hc12).symm.trans h
          refine ok_iconst (v := 0) dX5_readAsk_87 (by decide) ?_
          cases h
          exact ok_iret dX5_readAsk_88 (hQ (Or.inl rfl))
      · have h := (if_pos hc7).symm.trans h
        refine ok_aload_n dX5_readAsk_63 1 rfl ?_
        refine ok_iconst (v := 1) dX5_readAsk_64 (by decide) ?_
        obtain ⟨r16, hr17, h⟩ := bd h
        refine ok_callV (d := ((d + 2 + r) + 2)) (mt := m5_refuse) (mc := 0) (ms := 0) (As := [.int 1]) (r := []) dX5_readAsk_65 mo5_refuse mv5_refuse lkRX5_71 rfl hZ0 (q := (RX5, TX5, 8)) rfl rfl rfl (Nat.le_of_ble_eq_true rfl) (by show _ + 1 ≤ d + _ + r + 1; omega) (Nat.le_refl _) (Nat.le_refl _) (pRt_mono ?_)
        refine k5_refuse (d + 2 + r) hW hZ0 hr17 ?_
        intro hbr16
        show Ok g _ Qx 68 [(2, .int (r2.2 a0 3)), (0, .ref a0), (1, .int x1)] [.int r16.1] (Z, r16.2, L, O)
        cases h
        exact ok_iret dX5_readAsk_68 (hQ hbr16)
    · have h := (if_pos hc4).symm.trans h
      refine ok_iconst (v := 0) dX5_readAsk_49 (by decide) ?_
      cases h
      exact ok_iret dX5_readAsk_50 (hQ (Or.inl rfl))
  · have h := (if_pos hc1).symm.trans h
    refine ok_aload_n dX5_readAsk_9 0 rfl ?_
    refine ok_iload_n dX5_readAsk_10 1 rfl ?_
    obtain ⟨r18, hr19, h⟩ := bd h
    refine ok_callV (d := ((d + 1 + r) + 3)) (mt := m5_enter) (mc := 0) (ms := 0) (As := [.int x1]) (r := []) dX5_readAsk_11 mo5_enter mv5_enter lkRX5_127 rfl hZ0 (q := (RX5, TX5, 8)) rfl rfl rfl (Nat.le_of_ble_eq_true rfl) (by show _ + 1 ≤ d + _ + r + 1; omega) (Nat.le_refl _) (Nat.le_refl _) (pRt_mono ?_)
    refine k5_enter (d + 1 + r) hW hZ0 hr19 ?_
    intro hbr18
    show Ok g _ Qx 14 [(0, .ref a0), (1, .int x1)] [.int r18.1] (Z, r18.2, L, O)
    refine ok_if_eq (t := 27) dX5_readAsk_14 (by decide) (fun hc20 => ?_) (fun hc20 => ?_)
    · have h := (if_pos hc20).symm.trans h
      refine ok_iconst (v := 0) dX5_readAsk_27 (by decide) ?_
      cases h
      exact ok_iret dX5_readAsk_28 (hQ (Or.inl rfl))
    · have h := (if_neg hc20).symm.trans h
      refine ok_aload_n dX5_readAsk_17 0 rfl ?_
      refine ok_iload_n dX5_readAsk_18 1 rfl ?_
      refine ok_iconst (v := 1) dX5_readAsk_19 (by decide) ?_
      refine ok_iadd dX5_readAsk_20 ?_
      obtain ⟨r21, hr22, h⟩ := bd h
      refine ok_callV (d := (d + 4 + r)) (mt := m5_readAsk) (mc := 0) (ms := 0) (As := [.int (x1 + 1)]) (r := []) dX5_readAsk_21 mo5_readAsk mv5_readAsk lkRX5_142 rfl hZ0 (q := (RX5, TX5, 8)) rfl rfl rfl (Nat.le_of_ble_eq_true rfl) (by show _ + 1 ≤ d + _ + r + 1; omega) (Nat.le_refl _) (Nat.le_refl _) (pRt_mono ?_)
      refine hrec 6 r18.2 _ _ _ _ hZ0 hr22 ?_
      intro hbr21
      show Ok g _ Qx 24 [(0, .ref a0), (1, .int x1)] [.int r21.1] (Z, r21.2, L, O)
      refine ok_if_ne (t := 29) dX5_readAsk_24 (by decide) (fun hc23 => ?_) (fun hc23 => ?_)
      · have h := (if_neg hc23).symm.trans h
        refine ok_aload_n dX5_readAsk_29 0 rfl ?_
        have hT24 : Z[(rO O a0 1)]? = some (7, 7) := (wt_f (ci := 5) (k := 1) hW hZ0 rfl).2
        refine ok_getR (ci := 5) (k := 1) dX5_readAsk_30 flRX5_12 rfl hW hZ0 (by decide) ?_
        refine ok_bipush (v := 22) dX5_readAsk_33 (by decide) ?_
        obtain ⟨r25, hr26, h⟩ := bd h
        refine ok_callV (d := ((d + 2 + r) + 2)) (mt := m7_add) (mc := 0) (ms := 0) (As := [.int 22]) (r := []) dX5_readAsk_35 mo7_add mv7_add lkRX5_105 rfl hT24 (q := (RX7, TX7, 7)) rfl rfl rfl (Nat.le_of_ble_eq_true rfl) (by show _ + 1 ≤ d + _ + r + 1; omega) (Nat.le_refl _) (Nat.le_refl _) (pRt_mono ?_)
        refine k7_add (d + 2 + r) hW hT24 hr26 ?_
        intro _
        show Ok g _ Qx 38 [(0, .ref a0), (1, .int x1)] [.int r25.1] (Z, r25.2, L, O)
        refine ok_pop dX5_readAsk_38 rfl ?_
        refine ok_iconst (v := 1) dX5_readAsk_39 (by decide) ?_
        cases h
        exact ok_iret dX5_readAsk_40 (hQ (Or.inr rfl))
      · have h := (if_pos hc23).symm.trans h
        refine ok_iconst (v := 0) dX5_readAsk_27 (by decide) ?_
        cases h
        exact ok_iret dX5_readAsk_28 (hQ (Or.inl rfl))
def f5_rec (n : Nat) (O : (Nat → Nat → Option Nat)) : Nat → Nat → (Nat → Nat → Int32) → Nat → Int32 → Option (Int32 × (Nat → Nat → Int32))
  | 0, _, _, _, _ => none
  | r + 1, t, I, a0, x1 => match t with
    | 0 => f5_readSum_b n I O (f5_rec n O r) a0 x1
    | 1 => f5_readProduct_b n I O (f5_rec n O r) a0 x1
    | 2 => f5_readOne_b n I O (f5_rec n O r) a0 x1
    | 3 => f5_readChoice_b n I O (f5_rec n O r) a0 x1
    | 4 => f5_readEither_b n I O (f5_rec n O r) a0 x1
    | 5 => f5_readBoth_b n I O (f5_rec n O r) a0 x1
    | 6 => f5_readAsk_b n I O (f5_rec n O r) a0 x1
    | _ => none
set_option maxRecDepth 20000 in
theorem k5_rec {g : pG} {Z : pZ} {L : (Nat → Nat → Int64)} {O : (Nat → Nat → Option Nat)} {n : Nat} (d : Nat) (hW : WT Z O) : ∀ (r : Nat) (t : Nat) (I : (Nat → Nat → Int32)) (a0 : Nat) (x1 : Int32) (res : Int32 × (Nat → Nat → Int32)) (Q : Option Value → pW → Prop), (Z[a0]? = some (5, 8)) → f5_rec n O r t I a0 x1 = some res → Q (some (.int res.1)) (Z, res.2, L, O) → CT g (d + 4 + r) (mt5 t) 0 0 [.ref a0, .int x1] (Z, I, L, O) Q := by
  intro r
  induction r with
  | zero => intro t I a0 x1 res Q hZ0 h hQ; exact nomatch (show (none : Option (Int32 × (Nat → Nat → Int32))) = some res from h)
  | succ r ih =>
    intro t I a0 x1 res Q hZ0 h hQ
    match t, h with
    | 0, h => exact ct_of_ok (mt := m5_readSum) (ini := false) mo5_readSum.2.2.2.2 (fun h => by cases h) (Nat.le_of_ble_eq_true rfl) (o5_readSum (n := n) d r ih hW hZ0 h (fun hb => ⟨hb, hQ, rfl, rfl⟩))
    | 1, h => exact ct_of_ok (mt := m5_readProduct) (ini := false) mo5_readProduct.2.2.2.2 (fun h => by cases h) (Nat.le_of_ble_eq_true rfl) (o5_readProduct (n := n) d r ih hW hZ0 h (fun hb => ⟨hb, hQ, rfl, rfl⟩))
    | 2, h => exact ct_of_ok (mt := m5_readOne) (ini := false) mo5_readOne.2.2.2.2 (fun h => by cases h) (Nat.le_of_ble_eq_true rfl) (o5_readOne (n := n) d r ih hW hZ0 h (fun hb => ⟨hb, hQ, rfl, rfl⟩))
    | 3, h => exact ct_of_ok (mt := m5_readChoice) (ini := false) mo5_readChoice.2.2.2.2 (fun h => by cases h) (Nat.le_of_ble_eq_true rfl) (o5_readChoice (n := n) d r ih hW hZ0 h (fun hb => ⟨hb, hQ, rfl, rfl⟩))
    | 4, h => exact ct_of_ok (mt := m5_readEither) (ini := false) mo5_readEither.2.2.2.2 (fun h => by cases h) (Nat.le_of_ble_eq_true rfl) (o5_readEither (n := n) d r ih hW hZ0 h (fun hb => ⟨hb, hQ, rfl, rfl⟩))
    | 5, h => exact ct_of_ok (mt := m5_readBoth) (ini := false) mo5_readBoth.2.2.2.2 (fun h => by cases h) (Nat.le_of_ble_eq_true rfl) (o5_readBoth (n := n) d r ih hW hZ0 h (fun hb => ⟨hb, hQ, rfl, rfl⟩))
    | 6, h => exact ct_of_ok (mt := m5_readAsk) (ini := false) mo5_readAsk.2.2.2.2 (fun h => by cases h) (Nat.le_of_ble_eq_true rfl) (o5_readAsk (n := n) d r ih hW hZ0 h (fun hb => ⟨hb, hQ, rfl, rfl⟩))
    | t + 7, h => exact nomatch (show (none : Option (Int32 × (Nat → Nat → Int32))) = some res from h)
def f5_readSum (n : Nat) (I : (Nat → Nat → Int32)) (O : (Nat → Nat → Option Nat)) (a0 : Nat) (x1 : Int32) : Option (Int32 × (Nat → Nat → Int32)) := f5_rec n O 100 0 I a0 x1
theorem k5_readSum {g : pG} {Q : Option Value → pW → Prop} {Z : pZ} {I : (Nat → Nat → Int32)} {L : (Nat → Nat → Int64)} {O : (Nat → Nat → Option Nat)} {n : Nat} {a0 : Nat} {x1 : Int32} {res : Int32 × (Nat → Nat → Int32)} (d : Nat) (hW : WT Z O) (hZ0 : Z[a0]? = some (5, 8)) (h : f5_readSum n I O a0 x1 = some res) (hQ : Q (some (.int res.1)) (Z, res.2, L, O)) : CT g (d + 104) m5_readSum 0 0 [.ref a0, .int x1] (Z, I, L, O) Q :=
  k5_rec d hW 100 0 I a0 x1 res Q hZ0 h hQ
def f5_readProduct (n : Nat) (I : (Nat → Nat → Int32)) (O : (Nat → Nat → Option Nat)) (a0 : Nat) (x1 : Int32) : Option (Int32 × (Nat → Nat → Int32)) := f5_rec n O 100 1 I a0 x1
theorem k5_readProduct {g : pG} {Q : Option Value → pW → Prop} {Z : pZ} {I : (Nat → Nat → Int32)} {L : (Nat → Nat → Int64)} {O : (Nat → Nat → Option Nat)} {n : Nat} {a0 : Nat} {x1 : Int32} {res : Int32 × (Nat → Nat → Int32)} (d : Nat) (hW : WT Z O) (hZ0 : Z[a0]? = some (5, 8)) (h : f5_readProduct n I O a0 x1 = some res) (hQ : Q (some (.int res.1)) (Z, res.2, L, O)) : CT g (d + 104) m5_readProduct 0 0 [.ref a0, .int x1] (Z, I, L, O) Q :=
  k5_rec d hW 100 1 I a0 x1 res Q hZ0 h hQ
def f5_readOne (n : Nat) (I : (Nat → Nat → Int32)) (O : (Nat → Nat → Option Nat)) (a0 : Nat) (x1 : Int32) : Option (Int32 × (Nat → Nat → Int32)) := f5_rec n O 100 2 I a0 x1
theorem k5_readOne {g : pG} {Q : Option Value → pW → Prop} {Z : pZ} {I : (Nat → Nat → Int32)} {L : (Nat → Nat → Int64)} {O : (Nat → Nat → Option Nat)} {n : Nat} {a0 : Nat} {x1 : Int32} {res : Int32 × (Nat → Nat → Int32)} (d : Nat) (hW : WT Z O) (hZ0 : Z[a0]? = some (5, 8)) (h : f5_readOne n I O a0 x1 = some res) (hQ : Q (some (.int res.1)) (Z, res.2, L, O)) : CT g (d + 104) m5_readOne 0 0 [.ref a0, .int x1] (Z, I, L, O) Q :=
  k5_rec d hW 100 2 I a0 x1 res Q hZ0 h hQ
def f5_readChoice (n : Nat) (I : (Nat → Nat → Int32)) (O : (Nat → Nat → Option Nat)) (a0 : Nat) (x1 : Int32) : Option (Int32 × (Nat → Nat → Int32)) := f5_rec n O 100 3 I a0 x1
theorem k5_readChoice {g : pG} {Q : Option Value → pW → Prop} {Z : pZ} {I : (Nat → Nat → Int32)} {L : (Nat → Nat → Int64)} {O : (Nat → Nat → Option Nat)} {n : Nat} {a0 : Nat} {x1 : Int32} {res : Int32 × (Nat → Nat → Int32)} (d : Nat) (hW : WT Z O) (hZ0 : Z[a0]? = some (5, 8)) (h : f5_readChoice n I O a0 x1 = some res) (hQ : Q (some (.int res.1)) (Z, res.2, L, O)) : CT g (d + 104) m5_readChoice 0 0 [.ref a0, .int x1] (Z, I, L, O) Q :=
  k5_rec d hW 100 3 I a0 x1 res Q hZ0 h hQ
def f5_readEither (n : Nat) (I : (Nat → Nat → Int32)) (O : (Nat → Nat → Option Nat)) (a0 : Nat) (x1 : Int32) : Option (Int32 × (Nat → Nat → Int32)) := f5_rec n O 100 4 I a0 x1
theorem k5_readEither {g : pG} {Q : Option Value → pW → Prop} {Z : pZ} {I : (Nat → Nat → Int32)} {L : (Nat → Nat → Int64)} {O : (Nat → Nat → Option Nat)} {n : Nat} {a0 : Nat} {x1 : Int32} {res : Int32 × (Nat → Nat → Int32)} (d : Nat) (hW : WT Z O) (hZ0 : Z[a0]? = some (5, 8)) (h : f5_readEither n I O a0 x1 = some res) (hQ : Q (some (.int res.1)) (Z, res.2, L, O)) : CT g (d + 104) m5_readEither 0 0 [.ref a0, .int x1] (Z, I, L, O) Q :=
  k5_rec d hW 100 4 I a0 x1 res Q hZ0 h hQ
def f5_readBoth (n : Nat) (I : (Nat → Nat → Int32)) (O : (Nat → Nat → Option Nat)) (a0 : Nat) (x1 : Int32) : Option (Int32 × (Nat → Nat → Int32)) := f5_rec n O 100 5 I a0 x1
theorem k5_readBoth {g : pG} {Q : Option Value → pW → Prop} {Z : pZ} {I : (Nat → Nat → Int32)} {L : (Nat → Nat → Int64)} {O : (Nat → Nat → Option Nat)} {n : Nat} {a0 : Nat} {x1 : Int32} {res : Int32 × (Nat → Nat → Int32)} (d : Nat) (hW : WT Z O) (hZ0 : Z[a0]? = some (5, 8)) (h : f5_readBoth n I O a0 x1 = some res) (hQ : Q (some (.int res.1)) (Z, res.2, L, O)) : CT g (d + 104) m5_readBoth 0 0 [.ref a0, .int x1] (Z, I, L, O) Q :=
  k5_rec d hW 100 5 I a0 x1 res Q hZ0 h hQ
def f5_readAsk (n : Nat) (I : (Nat → Nat → Int32)) (O : (Nat → Nat → Option Nat)) (a0 : Nat) (x1 : Int32) : Option (Int32 × (Nat → Nat → Int32)) := f5_rec n O 100 6 I a0 x1
theorem k5_readAsk {g : pG} {Q : Option Value → pW → Prop} {Z : pZ} {I : (Nat → Nat → Int32)} {L : (Nat → Nat → Int64)} {O : (Nat → Nat → Option Nat)} {n : Nat} {a0 : Nat} {x1 : Int32} {res : Int32 × (Nat → Nat → Int32)} (d : Nat) (hW : WT Z O) (hZ0 : Z[a0]? = some (5, 8)) (h : f5_readAsk n I O a0 x1 = some res) (hQ : Q (some (.int res.1)) (Z, res.2, L, O)) : CT g (d + 104) m5_readAsk 0 0 [.ref a0, .int x1] (Z, I, L, O) Q :=
  k5_rec d hW 100 6 I a0 x1 res Q hZ0 h hQ
