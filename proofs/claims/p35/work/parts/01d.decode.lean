theorem dX11_readsEdge_66 : decode cX11_readsEdge 66 = .ok (.aload_n 0, 1) := by decide +kernel
theorem dX11_readsEdge_67 : decode cX11_readsEdge 67 = .ok (.dup, 1) := by decide +kernel
theorem dX11_readsEdge_68 : decode cX11_readsEdge 68 = .ok (.getfield 118, 3) := by decide +kernel
theorem dX11_readsEdge_71 : decode cX11_readsEdge 71 = .ok (.iconst 1, 1) := by decide +kernel
theorem dX11_readsEdge_72 : decode cX11_readsEdge 72 = .ok (.iadd, 1) := by decide +kernel
theorem dX11_readsEdge_73 : decode cX11_readsEdge 73 = .ok (.putfield 118, 3) := by decide +kernel
theorem dX11_readsEdge_76 : decode cX11_readsEdge 76 = .ok (.aload_n 0, 1) := by decide +kernel
theorem dX11_readsEdge_77 : decode cX11_readsEdge 77 = .ok (.invokevirtual 121, 3) := by decide +kernel
theorem dX11_readsEdge_80 : decode cX11_readsEdge 80 = .ok (.bipush 43, 2) := by decide +kernel
theorem dX11_readsEdge_82 : decode cX11_readsEdge 82 = .ok (.if_icmp .ne 7, 3) := by decide +kernel
theorem dX11_readsEdge_85 : decode cX11_readsEdge 85 = .ok (.iconst 1, 1) := by decide +kernel
theorem dX11_readsEdge_86 : decode cX11_readsEdge 86 = .ok (.goto 17, 3) := by decide +kernel
theorem dX11_readsEdge_89 : decode cX11_readsEdge 89 = .ok (.aload_n 0, 1) := by decide +kernel
theorem dX11_readsEdge_90 : decode cX11_readsEdge 90 = .ok (.invokevirtual 121, 3) := by decide +kernel
theorem dX11_readsEdge_93 : decode cX11_readsEdge 93 = .ok (.bipush 45, 2) := by decide +kernel
theorem dX11_readsEdge_95 : decode cX11_readsEdge 95 = .ok (.if_icmp .ne 7, 3) := by decide +kernel
theorem dX11_readsEdge_98 : decode cX11_readsEdge 98 = .ok (.iconst (-1), 1) := by decide +kernel
theorem dX11_readsEdge_99 : decode cX11_readsEdge 99 = .ok (.goto 4, 3) := by decide +kernel
theorem dX11_readsEdge_102 : decode cX11_readsEdge 102 = .ok (.iconst 0, 1) := by decide +kernel
theorem dX11_readsEdge_103 : decode cX11_readsEdge 103 = .ok (.istore_n 2, 1) := by decide +kernel
theorem dX11_readsEdge_104 : decode cX11_readsEdge 104 = .ok (.iload_n 2, 1) := by decide +kernel
theorem dX11_readsEdge_105 : decode cX11_readsEdge 105 = .ok (.ifCond .ne 5, 3) := by decide +kernel
theorem dX11_readsEdge_108 : decode cX11_readsEdge 108 = .ok (.iconst 0, 1) := by decide +kernel
theorem dX11_readsEdge_109 : decode cX11_readsEdge 109 = .ok (.ireturn, 1) := by decide +kernel
theorem dX11_readsEdge_110 : decode cX11_readsEdge 110 = .ok (.aload_n 0, 1) := by decide +kernel
theorem dX11_readsEdge_111 : decode cX11_readsEdge 111 = .ok (.dup, 1) := by decide +kernel
theorem dX11_readsEdge_112 : decode cX11_readsEdge 112 = .ok (.getfield 118, 3) := by decide +kernel
theorem dX11_readsEdge_115 : decode cX11_readsEdge 115 = .ok (.iconst 1, 1) := by decide +kernel
theorem dX11_readsEdge_116 : decode cX11_readsEdge 116 = .ok (.iadd, 1) := by decide +kernel
theorem dX11_readsEdge_117 : decode cX11_readsEdge 117 = .ok (.putfield 118, 3) := by decide +kernel
theorem dX11_readsEdge_120 : decode cX11_readsEdge 120 = .ok (.aload_n 0, 1) := by decide +kernel
theorem dX11_readsEdge_121 : decode cX11_readsEdge 121 = .ok (.iconst 1, 1) := by decide +kernel
theorem dX11_readsEdge_122 : decode cX11_readsEdge 122 = .ok (.invokevirtual 128, 3) := by decide +kernel
theorem dX11_readsEdge_125 : decode cX11_readsEdge 125 = .ok (.istore_n 3, 1) := by decide +kernel
theorem dX11_readsEdge_126 : decode cX11_readsEdge 126 = .ok (.iload_n 3, 1) := by decide +kernel
theorem dX11_readsEdge_127 : decode cX11_readsEdge 127 = .ok (.ifCond .ge 5, 3) := by decide +kernel
theorem dX11_readsEdge_130 : decode cX11_readsEdge 130 = .ok (.iconst 0, 1) := by decide +kernel
theorem dX11_readsEdge_131 : decode cX11_readsEdge 131 = .ok (.ireturn, 1) := by decide +kernel
theorem dX11_readsEdge_132 : decode cX11_readsEdge 132 = .ok (.aload_n 0, 1) := by decide +kernel
theorem dX11_readsEdge_133 : decode cX11_readsEdge 133 = .ok (.getfield 58, 3) := by decide +kernel
theorem dX11_readsEdge_136 : decode cX11_readsEdge 136 = .ok (.iload_n 1, 1) := by decide +kernel
theorem dX11_readsEdge_137 : decode cX11_readsEdge 137 = .ok (.iload_n 2, 1) := by decide +kernel
theorem dX11_readsEdge_138 : decode cX11_readsEdge 138 = .ok (.iload_n 3, 1) := by decide +kernel
theorem dX11_readsEdge_139 : decode cX11_readsEdge 139 = .ok (.imul, 1) := by decide +kernel
theorem dX11_readsEdge_140 : decode cX11_readsEdge 140 = .ok (.iastore, 1) := by decide +kernel
theorem dX11_readsEdge_141 : decode cX11_readsEdge 141 = .ok (.aload_n 0, 1) := by decide +kernel
theorem dX11_readsEdge_142 : decode cX11_readsEdge 142 = .ok (.bipush 59, 2) := by decide +kernel
theorem dX11_readsEdge_144 : decode cX11_readsEdge 144 = .ok (.invokevirtual 131, 3) := by decide +kernel
theorem dX11_readsEdge_147 : decode cX11_readsEdge 147 = .ok (.ireturn, 1) := by decide +kernel
theorem dX11_statement_0 : decode cX11_statement 0 = .ok (.aload_n 0, 1) := by decide +kernel
theorem dX11_statement_1 : decode cX11_statement 1 = .ok (.getfield 135, 3) := by decide +kernel
theorem dX11_statement_4 : decode cX11_statement 4 = .ok (.istore_n 1, 1) := by decide +kernel
theorem dX11_statement_5 : decode cX11_statement 5 = .ok (.aload_n 0, 1) := by decide +kernel
theorem dX11_statement_6 : decode cX11_statement 6 = .ok (.invokevirtual 121, 3) := by decide +kernel
theorem dX11_statement_9 : decode cX11_statement 9 = .ok (.istore_n 2, 1) := by decide +kernel
theorem dX11_statement_10 : decode cX11_statement 10 = .ok (.iload_n 2, 1) := by decide +kernel
theorem dX11_statement_11 : decode cX11_statement 11 = .ok (.bipush 122, 2) := by decide +kernel
theorem dX11_statement_13 : decode cX11_statement 13 = .ok (.if_icmp .eq 23, 3) := by decide +kernel
theorem dX11_statement_16 : decode cX11_statement 16 = .ok (.iload_n 2, 1) := by decide +kernel
theorem dX11_statement_17 : decode cX11_statement 17 = .ok (.bipush 101, 2) := by decide +kernel
theorem dX11_statement_19 : decode cX11_statement 19 = .ok (.if_icmp .eq 17, 3) := by decide +kernel
theorem dX11_statement_22 : decode cX11_statement 22 = .ok (.iload_n 2, 1) := by decide +kernel
theorem dX11_statement_23 : decode cX11_statement 23 = .ok (.bipush 99, 2) := by decide +kernel
theorem dX11_statement_25 : decode cX11_statement 25 = .ok (.if_icmp .eq 11, 3) := by decide +kernel
theorem dX11_statement_28 : decode cX11_statement 28 = .ok (.iload_n 2, 1) := by decide +kernel
theorem dX11_statement_29 : decode cX11_statement 29 = .ok (.bipush 112, 2) := by decide +kernel
theorem dX11_statement_31 : decode cX11_statement 31 = .ok (.if_icmp .eq 5, 3) := by decide +kernel
theorem dX11_statement_34 : decode cX11_statement 34 = .ok (.iconst 0, 1) := by decide +kernel
theorem dX11_statement_35 : decode cX11_statement 35 = .ok (.ireturn, 1) := by decide +kernel
theorem dX11_statement_36 : decode cX11_statement 36 = .ok (.aload_n 0, 1) := by decide +kernel
theorem dX11_statement_37 : decode cX11_statement 37 = .ok (.getfield 46, 3) := by decide +kernel
theorem dX11_statement_40 : decode cX11_statement 40 = .ok (.iload_n 1, 1) := by decide +kernel
theorem dX11_statement_41 : decode cX11_statement 41 = .ok (.iload_n 2, 1) := by decide +kernel
theorem dX11_statement_42 : decode cX11_statement 42 = .ok (.iastore, 1) := by decide +kernel
theorem dX11_statement_43 : decode cX11_statement 43 = .ok (.aload_n 0, 1) := by decide +kernel
theorem dX11_statement_44 : decode cX11_statement 44 = .ok (.getfield 49, 3) := by decide +kernel
theorem dX11_statement_47 : decode cX11_statement 47 = .ok (.iload_n 1, 1) := by decide +kernel
theorem dX11_statement_48 : decode cX11_statement 48 = .ok (.aload_n 0, 1) := by decide +kernel
theorem dX11_statement_49 : decode cX11_statement 49 = .ok (.getfield 118, 3) := by decide +kernel
theorem dX11_statement_52 : decode cX11_statement 52 = .ok (.iastore, 1) := by decide +kernel
theorem dX11_statement_53 : decode cX11_statement 53 = .ok (.aload_n 0, 1) := by decide +kernel
theorem dX11_statement_54 : decode cX11_statement 54 = .ok (.dup, 1) := by decide +kernel
theorem dX11_statement_55 : decode cX11_statement 55 = .ok (.getfield 118, 3) := by decide +kernel
theorem dX11_statement_58 : decode cX11_statement 58 = .ok (.iconst 1, 1) := by decide +kernel
theorem dX11_statement_59 : decode cX11_statement 59 = .ok (.iadd, 1) := by decide +kernel
theorem dX11_statement_60 : decode cX11_statement 60 = .ok (.putfield 118, 3) := by decide +kernel
theorem dX11_statement_63 : decode cX11_statement 63 = .ok (.iload_n 2, 1) := by decide +kernel
theorem dX11_statement_64 : decode cX11_statement 64 = .ok (.bipush 101, 2) := by decide +kernel
theorem dX11_statement_66 : decode cX11_statement 66 = .ok (.if_icmp .ne 9, 3) := by decide +kernel
theorem dX11_statement_69 : decode cX11_statement 69 = .ok (.aload_n 0, 1) := by decide +kernel
theorem dX11_statement_70 : decode cX11_statement 70 = .ok (.iload_n 1, 1) := by decide +kernel
theorem dX11_statement_71 : decode cX11_statement 71 = .ok (.invokevirtual 138, 3) := by decide +kernel
theorem dX11_statement_74 : decode cX11_statement 74 = .ok (.ireturn, 1) := by decide +kernel
theorem dX11_statement_75 : decode cX11_statement 75 = .ok (.iload_n 2, 1) := by decide +kernel
theorem dX11_statement_76 : decode cX11_statement 76 = .ok (.bipush 112, 2) := by decide +kernel
theorem dX11_statement_78 : decode cX11_statement 78 = .ok (.if_icmp .ne 40, 3) := by decide +kernel
theorem dX11_statement_81 : decode cX11_statement 81 = .ok (.aload_n 0, 1) := by decide +kernel
theorem dX11_statement_82 : decode cX11_statement 82 = .ok (.getfield 52, 3) := by decide +kernel
theorem dX11_statement_85 : decode cX11_statement 85 = .ok (.iload_n 1, 1) := by decide +kernel
theorem dX11_statement_86 : decode cX11_statement 86 = .ok (.aload_n 0, 1) := by decide +kernel
theorem dX11_statement_87 : decode cX11_statement 87 = .ok (.invokevirtual 121, 3) := by decide +kernel
theorem dX11_statement_90 : decode cX11_statement 90 = .ok (.invokestatic 141, 3) := by decide +kernel
theorem dX11_statement_93 : decode cX11_statement 93 = .ok (.iastore, 1) := by decide +kernel
theorem dX11_statement_94 : decode cX11_statement 94 = .ok (.aload_n 0, 1) := by decide +kernel
theorem dX11_statement_95 : decode cX11_statement 95 = .ok (.getfield 52, 3) := by decide +kernel
theorem dX11_statement_98 : decode cX11_statement 98 = .ok (.iload_n 1, 1) := by decide +kernel
theorem dX11_statement_99 : decode cX11_statement 99 = .ok (.iaload, 1) := by decide +kernel
theorem dX11_statement_100 : decode cX11_statement 100 = .ok (.ifCond .ge 5, 3) := by decide +kernel
theorem dX11_statement_103 : decode cX11_statement 103 = .ok (.iconst 0, 1) := by decide +kernel
theorem dX11_statement_104 : decode cX11_statement 104 = .ok (.ireturn, 1) := by decide +kernel
theorem dX11_statement_105 : decode cX11_statement 105 = .ok (.aload_n 0, 1) := by decide +kernel
theorem dX11_statement_106 : decode cX11_statement 106 = .ok (.dup, 1) := by decide +kernel
theorem dX11_statement_107 : decode cX11_statement 107 = .ok (.getfield 118, 3) := by decide +kernel
theorem dX11_statement_110 : decode cX11_statement 110 = .ok (.iconst 1, 1) := by decide +kernel
theorem dX11_statement_111 : decode cX11_statement 111 = .ok (.iadd, 1) := by decide +kernel
theorem dX11_statement_112 : decode cX11_statement 112 = .ok (.putfield 118, 3) := by decide +kernel
theorem dX11_statement_115 : decode cX11_statement 115 = .ok (.goto 50, 3) := by decide +kernel
theorem dX11_statement_118 : decode cX11_statement 118 = .ok (.aload_n 0, 1) := by decide +kernel
theorem dX11_statement_119 : decode cX11_statement 119 = .ok (.getfield 52, 3) := by decide +kernel
theorem dX11_statement_122 : decode cX11_statement 122 = .ok (.iload_n 1, 1) := by decide +kernel
theorem dX11_statement_123 : decode cX11_statement 123 = .ok (.aload_n 0, 1) := by decide +kernel
theorem dX11_statement_124 : decode cX11_statement 124 = .ok (.iload_n 2, 1) := by decide +kernel
theorem dX11_statement_125 : decode cX11_statement 125 = .ok (.bipush 122, 2) := by decide +kernel
theorem dX11_statement_127 : decode cX11_statement 127 = .ok (.if_icmp .ne 7, 3) := by decide +kernel
theorem dX11_statement_130 : decode cX11_statement 130 = .ok (.iconst 1, 1) := by decide +kernel
theorem dX11_statement_131 : decode cX11_statement 131 = .ok (.goto 4, 3) := by decide +kernel
theorem dX11_statement_134 : decode cX11_statement 134 = .ok (.iconst 2, 1) := by decide +kernel
theorem dX11_statement_135 : decode cX11_statement 135 = .ok (.invokevirtual 128, 3) := by decide +kernel
theorem dX11_statement_138 : decode cX11_statement 138 = .ok (.iastore, 1) := by decide +kernel
theorem dX11_statement_139 : decode cX11_statement 139 = .ok (.aload_n 0, 1) := by decide +kernel
theorem dX11_statement_140 : decode cX11_statement 140 = .ok (.getfield 52, 3) := by decide +kernel
theorem dX11_statement_143 : decode cX11_statement 143 = .ok (.iload_n 1, 1) := by decide +kernel
theorem dX11_statement_144 : decode cX11_statement 144 = .ok (.iaload, 1) := by decide +kernel
theorem dX11_statement_145 : decode cX11_statement 145 = .ok (.ifCond .lt 18, 3) := by decide +kernel
theorem dX11_statement_148 : decode cX11_statement 148 = .ok (.iload_n 2, 1) := by decide +kernel
theorem dX11_statement_149 : decode cX11_statement 149 = .ok (.bipush 99, 2) := by decide +kernel
theorem dX11_statement_151 : decode cX11_statement 151 = .ok (.if_icmp .ne 14, 3) := by decide +kernel
theorem dX11_statement_154 : decode cX11_statement 154 = .ok (.aload_n 0, 1) := by decide +kernel
theorem dX11_statement_155 : decode cX11_statement 155 = .ok (.bipush 44, 2) := by decide +kernel
theorem dX11_statement_157 : decode cX11_statement 157 = .ok (.invokevirtual 131, 3) := by decide +kernel
theorem dX11_statement_160 : decode cX11_statement 160 = .ok (.ifCond .ne 5, 3) := by decide +kernel
theorem dX11_statement_163 : decode cX11_statement 163 = .ok (.iconst 0, 1) := by decide +kernel
theorem dX11_statement_164 : decode cX11_statement 164 = .ok (.ireturn, 1) := by decide +kernel
theorem dX11_statement_165 : decode cX11_statement 165 = .ok (.aload_n 0, 1) := by decide +kernel
theorem dX11_statement_166 : decode cX11_statement 166 = .ok (.getfield 55, 3) := by decide +kernel
theorem dX11_statement_169 : decode cX11_statement 169 = .ok (.iload_n 1, 1) := by decide +kernel
theorem dX11_statement_170 : decode cX11_statement 170 = .ok (.aload_n 0, 1) := by decide +kernel
theorem dX11_statement_171 : decode cX11_statement 171 = .ok (.iconst 1, 1) := by decide +kernel
theorem dX11_statement_172 : decode cX11_statement 172 = .ok (.invokevirtual 128, 3) := by decide +kernel
theorem dX11_statement_175 : decode cX11_statement 175 = .ok (.iastore, 1) := by decide +kernel
theorem dX11_statement_176 : decode cX11_statement 176 = .ok (.aload_n 0, 1) := by decide +kernel
theorem dX11_statement_177 : decode cX11_statement 177 = .ok (.getfield 55, 3) := by decide +kernel
theorem dX11_statement_180 : decode cX11_statement 180 = .ok (.iload_n 1, 1) := by decide +kernel
theorem dX11_statement_181 : decode cX11_statement 181 = .ok (.iaload, 1) := by decide +kernel
theorem dX11_statement_182 : decode cX11_statement 182 = .ok (.ifCond .lt 16, 3) := by decide +kernel
theorem dX11_statement_185 : decode cX11_statement 185 = .ok (.aload_n 0, 1) := by decide +kernel
theorem dX11_statement_186 : decode cX11_statement 186 = .ok (.bipush 59, 2) := by decide +kernel
theorem dX11_statement_188 : decode cX11_statement 188 = .ok (.invokevirtual 131, 3) := by decide +kernel
theorem dX11_statement_191 : decode cX11_statement 191 = .ok (.ifCond .eq 7, 3) := by decide +kernel
theorem dX11_statement_194 : decode cX11_statement 194 = .ok (.iconst 1, 1) := by decide +kernel
theorem dX11_statement_195 : decode cX11_statement 195 = .ok (.goto 4, 3) := by decide +kernel
theorem dX11_statement_198 : decode cX11_statement 198 = .ok (.iconst 0, 1) := by decide +kernel
theorem dX11_statement_199 : decode cX11_statement 199 = .ok (.ireturn, 1) := by decide +kernel
theorem dX11_comes_0 : decode cX11_comes 0 = .ok (.aload_n 0, 1) := by decide +kernel
theorem dX11_comes_1 : decode cX11_comes 1 = .ok (.getfield 52, 3) := by decide +kernel
theorem dX11_comes_4 : decode cX11_comes 4 = .ok (.iload_n 1, 1) := by decide +kernel
theorem dX11_comes_5 : decode cX11_comes 5 = .ok (.iaload, 1) := by decide +kernel
theorem dX11_comes_6 : decode cX11_comes 6 = .ok (.istore_n 2, 1) := by decide +kernel
theorem dX11_comes_7 : decode cX11_comes 7 = .ok (.aload_n 0, 1) := by decide +kernel
theorem dX11_comes_8 : decode cX11_comes 8 = .ok (.getfield 55, 3) := by decide +kernel
theorem dX11_comes_11 : decode cX11_comes 11 = .ok (.iload_n 1, 1) := by decide +kernel
theorem dX11_comes_12 : decode cX11_comes 12 = .ok (.iaload, 1) := by decide +kernel
theorem dX11_comes_13 : decode cX11_comes 13 = .ok (.istore_n 3, 1) := by decide +kernel
theorem dX11_comes_14 : decode cX11_comes 14 = .ok (.aload_n 0, 1) := by decide +kernel
theorem dX11_comes_15 : decode cX11_comes 15 = .ok (.getfield 46, 3) := by decide +kernel
theorem dX11_comes_18 : decode cX11_comes 18 = .ok (.iload_n 1, 1) := by decide +kernel
theorem dX11_comes_19 : decode cX11_comes 19 = .ok (.iaload, 1) := by decide +kernel
theorem dX11_comes_20 : decode cX11_comes 20 = .ok (.lookupswitch 146 #[(99, 127), (101, 64), (122, 36)], 36) := by decide +kernel
theorem dX11_comes_56 : decode cX11_comes 56 = .ok (.iload_n 2, 1) := by decide +kernel
theorem dX11_comes_57 : decode cX11_comes 57 = .ok (.iconst 2, 1) := by decide +kernel
theorem dX11_comes_58 : decode cX11_comes 58 = .ok (.iconst 4, 1) := by decide +kernel
theorem dX11_comes_59 : decode cX11_comes 59 = .ok (.invokestatic 124, 3) := by decide +kernel
theorem dX11_comes_62 : decode cX11_comes 62 = .ok (.ifCond .eq 12, 3) := by decide +kernel
theorem dX11_comes_65 : decode cX11_comes 65 = .ok (.iload_n 3, 1) := by decide +kernel
theorem dX11_comes_66 : decode cX11_comes 66 = .ok (.iconst 2, 1) := by decide +kernel
theorem dX11_comes_67 : decode cX11_comes 67 = .ok (.iconst 4, 1) := by decide +kernel
theorem dX11_comes_68 : decode cX11_comes 68 = .ok (.invokestatic 124, 3) := by decide +kernel
theorem dX11_comes_71 : decode cX11_comes 71 = .ok (.ifCond .ne 5, 3) := by decide +kernel
theorem dX11_comes_74 : decode cX11_comes 74 = .ok (.iconst 0, 1) := by decide +kernel
theorem dX11_comes_75 : decode cX11_comes 75 = .ok (.ireturn, 1) := by decide +kernel
theorem dX11_comes_76 : decode cX11_comes 76 = .ok (.aload_n 0, 1) := by decide +kernel
theorem dX11_comes_77 : decode cX11_comes 77 = .ok (.iload_n 2, 1) := by decide +kernel
theorem dX11_comes_78 : decode cX11_comes 78 = .ok (.iload_n 3, 1) := by decide +kernel
theorem dX11_comes_79 : decode cX11_comes 79 = .ok (.invokevirtual 79, 3) := by decide +kernel
theorem dX11_comes_82 : decode cX11_comes 82 = .ok (.iconst 1, 1) := by decide +kernel
theorem dX11_comes_83 : decode cX11_comes 83 = .ok (.ireturn, 1) := by decide +kernel
theorem dX11_comes_84 : decode cX11_comes 84 = .ok (.aload_n 0, 1) := by decide +kernel
theorem dX11_comes_85 : decode cX11_comes 85 = .ok (.iload_n 2, 1) := by decide +kernel
theorem dX11_comes_86 : decode cX11_comes 86 = .ok (.invokevirtual 144, 3) := by decide +kernel
theorem dX11_comes_89 : decode cX11_comes 89 = .ok (.ifCond .eq 23, 3) := by decide +kernel
theorem dX11_comes_92 : decode cX11_comes 92 = .ok (.aload_n 0, 1) := by decide +kernel
theorem dX11_comes_93 : decode cX11_comes 93 = .ok (.iload_n 2, 1) := by decide +kernel
theorem dX11_comes_94 : decode cX11_comes 94 = .ok (.iload_n 3, 1) := by decide +kernel
theorem dX11_comes_95 : decode cX11_comes 95 = .ok (.iconst 1, 1) := by decide +kernel
theorem dX11_comes_96 : decode cX11_comes 96 = .ok (.iadd, 1) := by decide +kernel
theorem dX11_comes_97 : decode cX11_comes 97 = .ok (.invokevirtual 98, 3) := by decide +kernel
theorem dX11_comes_100 : decode cX11_comes 100 = .ok (.ifCond .lt 12, 3) := by decide +kernel
theorem dX11_comes_103 : decode cX11_comes 103 = .ok (.aload_n 0, 1) := by decide +kernel
theorem dX11_comes_104 : decode cX11_comes 104 = .ok (.getfield 58, 3) := by decide +kernel
theorem dX11_comes_107 : decode cX11_comes 107 = .ok (.iload_n 1, 1) := by decide +kernel
theorem dX11_comes_108 : decode cX11_comes 108 = .ok (.iaload, 1) := by decide +kernel
theorem dX11_comes_109 : decode cX11_comes 109 = .ok (.ifCond .ne 5, 3) := by decide +kernel
theorem dX11_comes_112 : decode cX11_comes 112 = .ok (.iconst 0, 1) := by decide +kernel
theorem dX11_comes_113 : decode cX11_comes 113 = .ok (.ireturn, 1) := by decide +kernel
theorem dX11_comes_114 : decode cX11_comes 114 = .ok (.iload_n 3, 1) := by decide +kernel
theorem dX11_comes_115 : decode cX11_comes 115 = .ok (.ifCond .ne 18, 3) := by decide +kernel
theorem dX11_comes_118 : decode cX11_comes 118 = .ok (.aload_n 0, 1) := by decide +kernel
theorem dX11_comes_119 : decode cX11_comes 119 = .ok (.getfield 13, 3) := by decide +kernel
theorem dX11_comes_122 : decode cX11_comes 122 = .ok (.iload_n 2, 1) := by decide +kernel
theorem dX11_comes_123 : decode cX11_comes 123 = .ok (.aload_n 0, 1) := by decide +kernel
theorem dX11_comes_124 : decode cX11_comes 124 = .ok (.getfield 58, 3) := by decide +kernel
theorem dX11_comes_127 : decode cX11_comes 127 = .ok (.iload_n 1, 1) := by decide +kernel
theorem dX11_comes_128 : decode cX11_comes 128 = .ok (.iaload, 1) := by decide +kernel
theorem dX11_comes_129 : decode cX11_comes 129 = .ok (.iastore, 1) := by decide +kernel
theorem dX11_comes_130 : decode cX11_comes 130 = .ok (.goto 15, 3) := by decide +kernel
theorem dX11_comes_133 : decode cX11_comes 133 = .ok (.aload_n 0, 1) := by decide +kernel
theorem dX11_comes_134 : decode cX11_comes 134 = .ok (.getfield 16, 3) := by decide +kernel
theorem dX11_comes_137 : decode cX11_comes 137 = .ok (.iload_n 2, 1) := by decide +kernel
theorem dX11_comes_138 : decode cX11_comes 138 = .ok (.aload_n 0, 1) := by decide +kernel
theorem dX11_comes_139 : decode cX11_comes 139 = .ok (.getfield 58, 3) := by decide +kernel
theorem dX11_comes_142 : decode cX11_comes 142 = .ok (.iload_n 1, 1) := by decide +kernel
theorem dX11_comes_143 : decode cX11_comes 143 = .ok (.iaload, 1) := by decide +kernel
theorem dX11_comes_144 : decode cX11_comes 144 = .ok (.iastore, 1) := by decide +kernel
theorem dX11_comes_145 : decode cX11_comes 145 = .ok (.iconst 1, 1) := by decide +kernel
theorem dX11_comes_146 : decode cX11_comes 146 = .ok (.ireturn, 1) := by decide +kernel
theorem dX11_comes_147 : decode cX11_comes 147 = .ok (.aload_n 0, 1) := by decide +kernel
theorem dX11_comes_148 : decode cX11_comes 148 = .ok (.iload_n 2, 1) := by decide +kernel
theorem dX11_comes_149 : decode cX11_comes 149 = .ok (.invokevirtual 144, 3) := by decide +kernel
theorem dX11_comes_152 : decode cX11_comes 152 = .ok (.ifCond .ne 5, 3) := by decide +kernel
theorem dX11_comes_155 : decode cX11_comes 155 = .ok (.iconst 0, 1) := by decide +kernel
theorem dX11_comes_156 : decode cX11_comes 156 = .ok (.ireturn, 1) := by decide +kernel
theorem dX11_comes_157 : decode cX11_comes 157 = .ok (.aload_n 0, 1) := by decide +kernel
theorem dX11_comes_158 : decode cX11_comes 158 = .ok (.getfield 19, 3) := by decide +kernel
theorem dX11_comes_161 : decode cX11_comes 161 = .ok (.iload_n 2, 1) := by decide +kernel
theorem dX11_comes_162 : decode cX11_comes 162 = .ok (.iload_n 3, 1) := by decide +kernel
theorem dX11_comes_163 : decode cX11_comes 163 = .ok (.iastore, 1) := by decide +kernel
theorem dX11_comes_164 : decode cX11_comes 164 = .ok (.iconst 1, 1) := by decide +kernel
theorem dX11_comes_165 : decode cX11_comes 165 = .ok (.ireturn, 1) := by decide +kernel
theorem dX11_comes_166 : decode cX11_comes 166 = .ok (.iload_n 3, 1) := by decide +kernel
theorem dX11_comes_167 : decode cX11_comes 167 = .ok (.ifCond .eq 12, 3) := by decide +kernel
theorem dX11_comes_170 : decode cX11_comes 170 = .ok (.aload_n 0, 1) := by decide +kernel
theorem dX11_comes_171 : decode cX11_comes 171 = .ok (.getfield 95, 3) := by decide +kernel
theorem dX11_comes_174 : decode cX11_comes 174 = .ok (.bipush 6, 2) := by decide +kernel
theorem dX11_comes_176 : decode cX11_comes 176 = .ok (.if_icmp .ne 5, 3) := by decide +kernel
theorem dX11_comes_179 : decode cX11_comes 179 = .ok (.iconst 0, 1) := by decide +kernel
theorem dX11_comes_180 : decode cX11_comes 180 = .ok (.ireturn, 1) := by decide +kernel
theorem dX11_comes_181 : decode cX11_comes 181 = .ok (.aload_n 0, 1) := by decide +kernel
theorem dX11_comes_182 : decode cX11_comes 182 = .ok (.getfield 34, 3) := by decide +kernel
theorem dX11_comes_185 : decode cX11_comes 185 = .ok (.aload_n 0, 1) := by decide +kernel
theorem dX11_comes_186 : decode cX11_comes 186 = .ok (.getfield 95, 3) := by decide +kernel
theorem dX11_comes_189 : decode cX11_comes 189 = .ok (.iload_n 2, 1) := by decide +kernel
theorem dX11_comes_190 : decode cX11_comes 190 = .ok (.iastore, 1) := by decide +kernel
theorem dX11_comes_191 : decode cX11_comes 191 = .ok (.aload_n 0, 1) := by decide +kernel
theorem dX11_comes_192 : decode cX11_comes 192 = .ok (.getfield 37, 3) := by decide +kernel
theorem dX11_comes_195 : decode cX11_comes 195 = .ok (.aload_n 0, 1) := by decide +kernel
theorem dX11_comes_196 : decode cX11_comes 196 = .ok (.getfield 95, 3) := by decide +kernel
theorem dX11_comes_199 : decode cX11_comes 199 = .ok (.iload_n 3, 1) := by decide +kernel
theorem dX11_comes_200 : decode cX11_comes 200 = .ok (.iastore, 1) := by decide +kernel
theorem dX11_comes_201 : decode cX11_comes 201 = .ok (.aload_n 0, 1) := by decide +kernel
theorem dX11_comes_202 : decode cX11_comes 202 = .ok (.getfield 40, 3) := by decide +kernel
theorem dX11_comes_205 : decode cX11_comes 205 = .ok (.aload_n 0, 1) := by decide +kernel
theorem dX11_comes_206 : decode cX11_comes 206 = .ok (.getfield 95, 3) := by decide +kernel
theorem dX11_comes_209 : decode cX11_comes 209 = .ok (.iconst 0, 1) := by decide +kernel
theorem dX11_comes_210 : decode cX11_comes 210 = .ok (.iastore, 1) := by decide +kernel
theorem dX11_comes_211 : decode cX11_comes 211 = .ok (.aload_n 0, 1) := by decide +kernel
theorem dX11_comes_212 : decode cX11_comes 212 = .ok (.dup, 1) := by decide +kernel
theorem dX11_comes_213 : decode cX11_comes 213 = .ok (.getfield 95, 3) := by decide +kernel
theorem dX11_comes_216 : decode cX11_comes 216 = .ok (.iconst 1, 1) := by decide +kernel
theorem dX11_comes_217 : decode cX11_comes 217 = .ok (.iadd, 1) := by decide +kernel
theorem dX11_comes_218 : decode cX11_comes 218 = .ok (.putfield 95, 3) := by decide +kernel
theorem dX11_comes_221 : decode cX11_comes 221 = .ok (.iconst 1, 1) := by decide +kernel
theorem dX11_comes_222 : decode cX11_comes 222 = .ok (.ireturn, 1) := by decide +kernel
theorem dX11_puzzle_0 : decode cX11_puzzle 0 = .ok (.aload_n 0, 1) := by decide +kernel
theorem dX11_puzzle_1 : decode cX11_puzzle 1 = .ok (.iconst 0, 1) := by decide +kernel
theorem dX11_puzzle_2 : decode cX11_puzzle 2 = .ok (.putfield 118, 3) := by decide +kernel
theorem dX11_puzzle_5 : decode cX11_puzzle 5 = .ok (.aload_n 0, 1) := by decide +kernel
theorem dX11_puzzle_6 : decode cX11_puzzle 6 = .ok (.iconst 0, 1) := by decide +kernel
theorem dX11_puzzle_7 : decode cX11_puzzle 7 = .ok (.putfield 135, 3) := by decide +kernel
theorem dX11_puzzle_10 : decode cX11_puzzle 10 = .ok (.iconst 1, 1) := by decide +kernel
theorem dX11_puzzle_11 : decode cX11_puzzle 11 = .ok (.istore_n 1, 1) := by decide +kernel
theorem dX11_puzzle_12 : decode cX11_puzzle 12 = .ok (.iload_n 1, 1) := by decide +kernel
theorem dX11_puzzle_13 : decode cX11_puzzle 13 = .ok (.ifCond .eq 47, 3) := by decide +kernel
theorem dX11_puzzle_16 : decode cX11_puzzle 16 = .ok (.aload_n 0, 1) := by decide +kernel
theorem dX11_puzzle_17 : decode cX11_puzzle 17 = .ok (.getfield 118, 3) := by decide +kernel
theorem dX11_puzzle_20 : decode cX11_puzzle 20 = .ok (.aload_n 0, 1) := by decide +kernel
theorem dX11_puzzle_21 : decode cX11_puzzle 21 = .ok (.getfield 109, 3) := by decide +kernel
theorem dX11_puzzle_24 : decode cX11_puzzle 24 = .ok (.if_icmp .lt 10, 3) := by decide +kernel
theorem dX11_puzzle_27 : decode cX11_puzzle 27 = .ok (.aload_n 0, 1) := by decide +kernel
theorem dX11_puzzle_28 : decode cX11_puzzle 28 = .ok (.getfield 135, 3) := by decide +kernel
theorem dX11_puzzle_31 : decode cX11_puzzle 31 = .ok (.ifCond .ne 29, 3) := by decide +kernel
theorem dX11_puzzle_34 : decode cX11_puzzle 34 = .ok (.aload_n 0, 1) := by decide +kernel
theorem dX11_puzzle_35 : decode cX11_puzzle 35 = .ok (.invokevirtual 147, 3) := by decide +kernel
theorem dX11_puzzle_38 : decode cX11_puzzle 38 = .ok (.istore_n 1, 1) := by decide +kernel
theorem dX11_puzzle_39 : decode cX11_puzzle 39 = .ok (.aload_n 0, 1) := by decide +kernel
theorem dX11_puzzle_40 : decode cX11_puzzle 40 = .ok (.dup, 1) := by decide +kernel
theorem dX11_puzzle_41 : decode cX11_puzzle 41 = .ok (.getfield 135, 3) := by decide +kernel
theorem dX11_puzzle_44 : decode cX11_puzzle 44 = .ok (.iload_n 1, 1) := by decide +kernel
theorem dX11_puzzle_45 : decode cX11_puzzle 45 = .ok (.ifCond .eq 7, 3) := by decide +kernel
theorem dX11_puzzle_48 : decode cX11_puzzle 48 = .ok (.iconst 1, 1) := by decide +kernel
theorem dX11_puzzle_49 : decode cX11_puzzle 49 = .ok (.goto 4, 3) := by decide +kernel
theorem dX11_puzzle_52 : decode cX11_puzzle 52 = .ok (.iconst 0, 1) := by decide +kernel
theorem dX11_puzzle_53 : decode cX11_puzzle 53 = .ok (.iadd, 1) := by decide +kernel
theorem dX11_puzzle_54 : decode cX11_puzzle 54 = .ok (.putfield 135, 3) := by decide +kernel
theorem dX11_puzzle_57 : decode cX11_puzzle 57 = .ok (.goto (-45), 3) := by decide +kernel
theorem dX11_puzzle_60 : decode cX11_puzzle 60 = .ok (.aload_n 0, 1) := by decide +kernel
theorem dX11_puzzle_61 : decode cX11_puzzle 61 = .ok (.iconst 0, 1) := by decide +kernel
theorem dX11_puzzle_62 : decode cX11_puzzle 62 = .ok (.putfield 109, 3) := by decide +kernel
theorem dX11_puzzle_65 : decode cX11_puzzle 65 = .ok (.iload_n 1, 1) := by decide +kernel
theorem dX11_puzzle_66 : decode cX11_puzzle 66 = .ok (.ifCond .ne 12, 3) := by decide +kernel
theorem dX11_puzzle_69 : decode cX11_puzzle 69 = .ok (.sipush (-1000), 3) := by decide +kernel
theorem dX11_puzzle_72 : decode cX11_puzzle 72 = .ok (.aload_n 0, 1) := by decide +kernel
theorem dX11_puzzle_73 : decode cX11_puzzle 73 = .ok (.getfield 118, 3) := by decide +kernel
theorem dX11_puzzle_76 : decode cX11_puzzle 76 = .ok (.isub, 1) := by decide +kernel
theorem dX11_puzzle_77 : decode cX11_puzzle 77 = .ok (.ireturn, 1) := by decide +kernel
theorem dX11_puzzle_78 : decode cX11_puzzle 78 = .ok (.aload_n 0, 1) := by decide +kernel
theorem dX11_puzzle_79 : decode cX11_puzzle 79 = .ok (.iconst 1, 1) := by decide +kernel
theorem dX11_puzzle_80 : decode cX11_puzzle 80 = .ok (.iconst 1, 1) := by decide +kernel
theorem dX11_puzzle_81 : decode cX11_puzzle 81 = .ok (.invokevirtual 151, 3) := by decide +kernel
theorem dX11_puzzle_84 : decode cX11_puzzle 84 = .ok (.iconst 0, 1) := by decide +kernel
theorem dX11_puzzle_85 : decode cX11_puzzle 85 = .ok (.istore_n 2, 1) := by decide +kernel
theorem dX11_puzzle_86 : decode cX11_puzzle 86 = .ok (.iload_n 2, 1) := by decide +kernel
theorem dX11_puzzle_87 : decode cX11_puzzle 87 = .ok (.aload_n 0, 1) := by decide +kernel
theorem dX11_puzzle_88 : decode cX11_puzzle 88 = .ok (.getfield 135, 3) := by decide +kernel
theorem dX11_puzzle_91 : decode cX11_puzzle 91 = .ok (.if_icmp .ge 37, 3) := by decide +kernel
theorem dX11_puzzle_94 : decode cX11_puzzle 94 = .ok (.aload_n 0, 1) := by decide +kernel
theorem dX11_puzzle_95 : decode cX11_puzzle 95 = .ok (.iload_n 2, 1) := by decide +kernel
theorem dX11_puzzle_96 : decode cX11_puzzle 96 = .ok (.invokevirtual 155, 3) := by decide +kernel
theorem dX11_puzzle_99 : decode cX11_puzzle 99 = .ok (.ifCond .eq 6, 3) := by decide +kernel
theorem dX11_puzzle_102 : decode cX11_puzzle 102 = .ok (.goto 20, 3) := by decide +kernel
theorem dX11_puzzle_105 : decode cX11_puzzle 105 = .ok (.aload_n 0, 1) := by decide +kernel
theorem dX11_puzzle_106 : decode cX11_puzzle 106 = .ok (.iconst 1, 1) := by decide +kernel
theorem dX11_puzzle_107 : decode cX11_puzzle 107 = .ok (.iconst 0, 1) := by decide +kernel
theorem dX11_puzzle_108 : decode cX11_puzzle 108 = .ok (.invokevirtual 151, 3) := by decide +kernel
theorem dX11_puzzle_111 : decode cX11_puzzle 111 = .ok (.sipush (-2000), 3) := by decide +kernel
theorem dX11_puzzle_114 : decode cX11_puzzle 114 = .ok (.aload_n 0, 1) := by decide +kernel
theorem dX11_puzzle_115 : decode cX11_puzzle 115 = .ok (.getfield 49, 3) := by decide +kernel
theorem dX11_puzzle_118 : decode cX11_puzzle 118 = .ok (.iload_n 2, 1) := by decide +kernel
theorem dX11_puzzle_119 : decode cX11_puzzle 119 = .ok (.iaload, 1) := by decide +kernel
theorem dX11_puzzle_120 : decode cX11_puzzle 120 = .ok (.isub, 1) := by decide +kernel
theorem dX11_puzzle_121 : decode cX11_puzzle 121 = .ok (.ireturn, 1) := by decide +kernel
theorem dX11_puzzle_122 : decode cX11_puzzle 122 = .ok (.iinc 2 1, 3) := by decide +kernel
theorem dX11_puzzle_125 : decode cX11_puzzle 125 = .ok (.goto (-39), 3) := by decide +kernel
theorem dX11_puzzle_128 : decode cX11_puzzle 128 = .ok (.aload_n 0, 1) := by decide +kernel
theorem dX11_puzzle_129 : decode cX11_puzzle 129 = .ok (.getfield 135, 3) := by decide +kernel
theorem dX11_puzzle_132 : decode cX11_puzzle 132 = .ok (.ireturn, 1) := by decide +kernel
theorem dX11_passes_0 : decode cX11_passes 0 = .ok (.iconst 0, 1) := by decide +kernel
theorem dX11_passes_1 : decode cX11_passes 1 = .ok (.istore_n 2, 1) := by decide +kernel
theorem dX11_passes_2 : decode cX11_passes 2 = .ok (.iload_n 2, 1) := by decide +kernel
theorem dX11_passes_3 : decode cX11_passes 3 = .ok (.aload_n 1, 1) := by decide +kernel
theorem dX11_passes_4 : decode cX11_passes 4 = .ok (.arraylength, 1) := by decide +kernel
theorem dX11_passes_5 : decode cX11_passes 5 = .ok (.if_icmp .ge 53, 3) := by decide +kernel
theorem dX11_passes_8 : decode cX11_passes 8 = .ok (.aload_n 0, 1) := by decide +kernel
theorem dX11_passes_9 : decode cX11_passes 9 = .ok (.getfield 158, 3) := by decide +kernel
theorem dX11_passes_12 : decode cX11_passes 12 = .ok (.ifCond .eq 18, 3) := by decide +kernel
theorem dX11_passes_15 : decode cX11_passes 15 = .ok (.aload_n 0, 1) := by decide +kernel
theorem dX11_passes_16 : decode cX11_passes 16 = .ok (.getfield 61, 3) := by decide +kernel
theorem dX11_passes_19 : decode cX11_passes 19 = .ok (.aload_n 0, 1) := by decide +kernel
theorem dX11_passes_20 : decode cX11_passes 20 = .ok (.getfield 162, 3) := by decide +kernel
theorem dX11_passes_23 : decode cX11_passes 23 = .ok (.aload_n 1, 1) := by decide +kernel
theorem dX11_passes_24 : decode cX11_passes 24 = .ok (.iload_n 2, 1) := by decide +kernel
theorem dX11_passes_25 : decode cX11_passes 25 = .ok (.iaload, 1) := by decide +kernel
theorem dX11_passes_26 : decode cX11_passes 26 = .ok (.iastore, 1) := by decide +kernel
theorem dX11_passes_27 : decode cX11_passes 27 = .ok (.goto 15, 3) := by decide +kernel
theorem dX11_passes_30 : decode cX11_passes 30 = .ok (.aload_n 1, 1) := by decide +kernel
theorem dX11_passes_31 : decode cX11_passes 31 = .ok (.iload_n 2, 1) := by decide +kernel
theorem dX11_passes_32 : decode cX11_passes 32 = .ok (.aload_n 0, 1) := by decide +kernel
theorem dX11_passes_33 : decode cX11_passes 33 = .ok (.getfield 61, 3) := by decide +kernel
theorem dX11_passes_36 : decode cX11_passes 36 = .ok (.aload_n 0, 1) := by decide +kernel
theorem dX11_passes_37 : decode cX11_passes 37 = .ok (.getfield 162, 3) := by decide +kernel
theorem dX11_passes_40 : decode cX11_passes 40 = .ok (.iaload, 1) := by decide +kernel
theorem dX11_passes_41 : decode cX11_passes 41 = .ok (.iastore, 1) := by decide +kernel
theorem dX11_passes_42 : decode cX11_passes 42 = .ok (.aload_n 0, 1) := by decide +kernel
theorem dX11_passes_43 : decode cX11_passes 43 = .ok (.dup, 1) := by decide +kernel
theorem dX11_passes_44 : decode cX11_passes 44 = .ok (.getfield 162, 3) := by decide +kernel
theorem dX11_passes_47 : decode cX11_passes 47 = .ok (.iconst 1, 1) := by decide +kernel
theorem dX11_passes_48 : decode cX11_passes 48 = .ok (.iadd, 1) := by decide +kernel
theorem dX11_passes_49 : decode cX11_passes 49 = .ok (.putfield 162, 3) := by decide +kernel
theorem dX11_passes_52 : decode cX11_passes 52 = .ok (.iinc 2 1, 3) := by decide +kernel
theorem dX11_passes_55 : decode cX11_passes 55 = .ok (.goto (-53), 3) := by decide +kernel
theorem dX11_passes_58 : decode cX11_passes 58 = .ok (.return_, 1) := by decide +kernel
theorem dX11_passOne_0 : decode cX11_passOne 0 = .ok (.aload_n 0, 1) := by decide +kernel
theorem dX11_passOne_1 : decode cX11_passOne 1 = .ok (.getfield 158, 3) := by decide +kernel
theorem dX11_passOne_4 : decode cX11_passOne 4 = .ok (.ifCond .eq 7, 3) := by decide +kernel
theorem dX11_passOne_7 : decode cX11_passOne 7 = .ok (.iload_n 1, 1) := by decide +kernel
theorem dX11_passOne_8 : decode cX11_passOne 8 = .ok (.goto 12, 3) := by decide +kernel
theorem dX11_passOne_11 : decode cX11_passOne 11 = .ok (.aload_n 0, 1) := by decide +kernel
theorem dX11_passOne_12 : decode cX11_passOne 12 = .ok (.getfield 61, 3) := by decide +kernel
theorem dX11_passOne_15 : decode cX11_passOne 15 = .ok (.aload_n 0, 1) := by decide +kernel
theorem dX11_passOne_16 : decode cX11_passOne 16 = .ok (.getfield 162, 3) := by decide +kernel
theorem dX11_passOne_19 : decode cX11_passOne 19 = .ok (.iaload, 1) := by decide +kernel
theorem dX11_passOne_20 : decode cX11_passOne 20 = .ok (.istore_n 2, 1) := by decide +kernel
theorem dX11_passOne_21 : decode cX11_passOne 21 = .ok (.aload_n 0, 1) := by decide +kernel
theorem dX11_passOne_22 : decode cX11_passOne 22 = .ok (.getfield 158, 3) := by decide +kernel
theorem dX11_passOne_25 : decode cX11_passOne 25 = .ok (.ifCond .eq 13, 3) := by decide +kernel
theorem dX11_passOne_28 : decode cX11_passOne 28 = .ok (.aload_n 0, 1) := by decide +kernel
theorem dX11_passOne_29 : decode cX11_passOne 29 = .ok (.getfield 61, 3) := by decide +kernel
theorem dX11_passOne_32 : decode cX11_passOne 32 = .ok (.aload_n 0, 1) := by decide +kernel
theorem dX11_passOne_33 : decode cX11_passOne 33 = .ok (.getfield 162, 3) := by decide +kernel
theorem dX11_passOne_36 : decode cX11_passOne 36 = .ok (.iload_n 1, 1) := by decide +kernel
theorem dX11_passOne_37 : decode cX11_passOne 37 = .ok (.iastore, 1) := by decide +kernel
theorem dX11_passOne_38 : decode cX11_passOne 38 = .ok (.aload_n 0, 1) := by decide +kernel
theorem dX11_passOne_39 : decode cX11_passOne 39 = .ok (.dup, 1) := by decide +kernel
theorem dX11_passOne_40 : decode cX11_passOne 40 = .ok (.getfield 162, 3) := by decide +kernel
theorem dX11_passOne_43 : decode cX11_passOne 43 = .ok (.iconst 1, 1) := by decide +kernel
theorem dX11_passOne_44 : decode cX11_passOne 44 = .ok (.iadd, 1) := by decide +kernel
theorem dX11_passOne_45 : decode cX11_passOne 45 = .ok (.putfield 162, 3) := by decide +kernel
theorem dX11_passOne_48 : decode cX11_passOne 48 = .ok (.iload_n 2, 1) := by decide +kernel
theorem dX11_passOne_49 : decode cX11_passOne 49 = .ok (.ireturn, 1) := by decide +kernel
theorem dX11_passesAll_0 : decode cX11_passesAll 0 = .ok (.aload_n 0, 1) := by decide +kernel
theorem dX11_passesAll_1 : decode cX11_passesAll 1 = .ok (.sipush 200, 3) := by decide +kernel
theorem dX11_passesAll_4 : decode cX11_passesAll 4 = .ok (.iload_n 1, 1) := by decide +kernel
theorem dX11_passesAll_5 : decode cX11_passesAll 5 = .ok (.imul, 1) := by decide +kernel
theorem dX11_passesAll_6 : decode cX11_passesAll 6 = .ok (.putfield 162, 3) := by decide +kernel
theorem dX11_passesAll_9 : decode cX11_passesAll 9 = .ok (.aload_n 0, 1) := by decide +kernel
theorem dX11_passesAll_10 : decode cX11_passesAll 10 = .ok (.iload_n 2, 1) := by decide +kernel
theorem dX11_passesAll_11 : decode cX11_passesAll 11 = .ok (.putfield 158, 3) := by decide +kernel
theorem dX11_passesAll_14 : decode cX11_passesAll 14 = .ok (.aload_n 0, 1) := by decide +kernel
theorem dX11_passesAll_15 : decode cX11_passesAll 15 = .ok (.aload_n 0, 1) := by decide +kernel
theorem dX11_passesAll_16 : decode cX11_passesAll 16 = .ok (.getfield 13, 3) := by decide +kernel
theorem dX11_passesAll_19 : decode cX11_passesAll 19 = .ok (.invokevirtual 165, 3) := by decide +kernel
theorem dX11_passesAll_22 : decode cX11_passesAll 22 = .ok (.aload_n 0, 1) := by decide +kernel
theorem dX11_passesAll_23 : decode cX11_passesAll 23 = .ok (.aload_n 0, 1) := by decide +kernel
theorem dX11_passesAll_24 : decode cX11_passesAll 24 = .ok (.getfield 16, 3) := by decide +kernel
theorem dX11_passesAll_27 : decode cX11_passesAll 27 = .ok (.invokevirtual 165, 3) := by decide +kernel
theorem dX11_passesAll_30 : decode cX11_passesAll 30 = .ok (.aload_n 0, 1) := by decide +kernel
theorem dX11_passesAll_31 : decode cX11_passesAll 31 = .ok (.aload_n 0, 1) := by decide +kernel
theorem dX11_passesAll_32 : decode cX11_passesAll 32 = .ok (.getfield 19, 3) := by decide +kernel
theorem dX11_passesAll_35 : decode cX11_passesAll 35 = .ok (.invokevirtual 165, 3) := by decide +kernel
theorem dX11_passesAll_38 : decode cX11_passesAll 38 = .ok (.aload_n 0, 1) := by decide +kernel
theorem dX11_passesAll_39 : decode cX11_passesAll 39 = .ok (.aload_n 0, 1) := by decide +kernel
theorem dX11_passesAll_40 : decode cX11_passesAll 40 = .ok (.getfield 22, 3) := by decide +kernel
theorem dX11_passesAll_43 : decode cX11_passesAll 43 = .ok (.invokevirtual 165, 3) := by decide +kernel
theorem dX11_passesAll_46 : decode cX11_passesAll 46 = .ok (.aload_n 0, 1) := by decide +kernel
theorem dX11_passesAll_47 : decode cX11_passesAll 47 = .ok (.aload_n 0, 1) := by decide +kernel
theorem dX11_passesAll_48 : decode cX11_passesAll 48 = .ok (.getfield 25, 3) := by decide +kernel
theorem dX11_passesAll_51 : decode cX11_passesAll 51 = .ok (.invokevirtual 165, 3) := by decide +kernel
theorem dX11_passesAll_54 : decode cX11_passesAll 54 = .ok (.aload_n 0, 1) := by decide +kernel
theorem dX11_passesAll_55 : decode cX11_passesAll 55 = .ok (.aload_n 0, 1) := by decide +kernel
theorem dX11_passesAll_56 : decode cX11_passesAll 56 = .ok (.getfield 28, 3) := by decide +kernel
theorem dX11_passesAll_59 : decode cX11_passesAll 59 = .ok (.invokevirtual 165, 3) := by decide +kernel
theorem dX11_passesAll_62 : decode cX11_passesAll 62 = .ok (.aload_n 0, 1) := by decide +kernel
theorem dX11_passesAll_63 : decode cX11_passesAll 63 = .ok (.aload_n 0, 1) := by decide +kernel
theorem dX11_passesAll_64 : decode cX11_passesAll 64 = .ok (.getfield 31, 3) := by decide +kernel
theorem dX11_passesAll_67 : decode cX11_passesAll 67 = .ok (.invokevirtual 165, 3) := by decide +kernel
theorem dX11_passesAll_70 : decode cX11_passesAll 70 = .ok (.aload_n 0, 1) := by decide +kernel
theorem dX11_passesAll_71 : decode cX11_passesAll 71 = .ok (.aload_n 0, 1) := by decide +kernel
theorem dX11_passesAll_72 : decode cX11_passesAll 72 = .ok (.getfield 34, 3) := by decide +kernel
theorem dX11_passesAll_75 : decode cX11_passesAll 75 = .ok (.invokevirtual 165, 3) := by decide +kernel
theorem dX11_passesAll_78 : decode cX11_passesAll 78 = .ok (.aload_n 0, 1) := by decide +kernel
theorem dX11_passesAll_79 : decode cX11_passesAll 79 = .ok (.aload_n 0, 1) := by decide +kernel
theorem dX11_passesAll_80 : decode cX11_passesAll 80 = .ok (.getfield 37, 3) := by decide +kernel
theorem dX11_passesAll_83 : decode cX11_passesAll 83 = .ok (.invokevirtual 165, 3) := by decide +kernel
theorem dX11_passesAll_86 : decode cX11_passesAll 86 = .ok (.aload_n 0, 1) := by decide +kernel
theorem dX11_passesAll_87 : decode cX11_passesAll 87 = .ok (.aload_n 0, 1) := by decide +kernel
theorem dX11_passesAll_88 : decode cX11_passesAll 88 = .ok (.getfield 40, 3) := by decide +kernel
theorem dX11_passesAll_91 : decode cX11_passesAll 91 = .ok (.invokevirtual 165, 3) := by decide +kernel
theorem dX11_passesAll_94 : decode cX11_passesAll 94 = .ok (.aload_n 0, 1) := by decide +kernel
theorem dX11_passesAll_95 : decode cX11_passesAll 95 = .ok (.aload_n 0, 1) := by decide +kernel
theorem dX11_passesAll_96 : decode cX11_passesAll 96 = .ok (.aload_n 0, 1) := by decide +kernel
theorem dX11_passesAll_97 : decode cX11_passesAll 97 = .ok (.getfield 84, 3) := by decide +kernel
theorem dX11_passesAll_100 : decode cX11_passesAll 100 = .ok (.invokevirtual 169, 3) := by decide +kernel
theorem dX11_passesAll_103 : decode cX11_passesAll 103 = .ok (.putfield 84, 3) := by decide +kernel
theorem dX11_passesAll_106 : decode cX11_passesAll 106 = .ok (.aload_n 0, 1) := by decide +kernel
theorem dX11_passesAll_107 : decode cX11_passesAll 107 = .ok (.aload_n 0, 1) := by decide +kernel
theorem dX11_passesAll_108 : decode cX11_passesAll 108 = .ok (.aload_n 0, 1) := by decide +kernel
theorem dX11_passesAll_109 : decode cX11_passesAll 109 = .ok (.getfield 88, 3) := by decide +kernel
theorem dX11_passesAll_112 : decode cX11_passesAll 112 = .ok (.invokevirtual 169, 3) := by decide +kernel
theorem dX11_passesAll_115 : decode cX11_passesAll 115 = .ok (.putfield 88, 3) := by decide +kernel
theorem dX11_passesAll_118 : decode cX11_passesAll 118 = .ok (.aload_n 0, 1) := by decide +kernel
theorem dX11_passesAll_119 : decode cX11_passesAll 119 = .ok (.aload_n 0, 1) := by decide +kernel
theorem dX11_passesAll_120 : decode cX11_passesAll 120 = .ok (.aload_n 0, 1) := by decide +kernel
theorem dX11_passesAll_121 : decode cX11_passesAll 121 = .ok (.getfield 95, 3) := by decide +kernel
theorem dX11_passesAll_124 : decode cX11_passesAll 124 = .ok (.invokevirtual 169, 3) := by decide +kernel
theorem dX11_passesAll_127 : decode cX11_passesAll 127 = .ok (.putfield 95, 3) := by decide +kernel
theorem dX11_passesAll_130 : decode cX11_passesAll 130 = .ok (.aload_n 0, 1) := by decide +kernel
theorem dX11_passesAll_131 : decode cX11_passesAll 131 = .ok (.aload_n 0, 1) := by decide +kernel
theorem dX11_passesAll_132 : decode cX11_passesAll 132 = .ok (.aload_n 0, 1) := by decide +kernel
theorem dX11_passesAll_133 : decode cX11_passesAll 133 = .ok (.getfield 172, 3) := by decide +kernel
theorem dX11_passesAll_136 : decode cX11_passesAll 136 = .ok (.invokevirtual 169, 3) := by decide +kernel
theorem dX11_passesAll_139 : decode cX11_passesAll 139 = .ok (.putfield 172, 3) := by decide +kernel
theorem dX11_passesAll_142 : decode cX11_passesAll 142 = .ok (.return_, 1) := by decide +kernel
theorem dX11_isAtRim_0 : decode cX11_isAtRim 0 = .ok (.iconst 0, 1) := by decide +kernel
theorem dX11_isAtRim_1 : decode cX11_isAtRim 1 = .ok (.istore 4, 2) := by decide +kernel
theorem dX11_isAtRim_3 : decode cX11_isAtRim 3 = .ok (.iload 4, 2) := by decide +kernel
theorem dX11_isAtRim_5 : decode cX11_isAtRim 5 = .ok (.iconst 4, 1) := by decide +kernel
theorem dX11_isAtRim_6 : decode cX11_isAtRim 6 = .ok (.if_icmp .ge 45, 3) := by decide +kernel
theorem dX11_isAtRim_9 : decode cX11_isAtRim 9 = .ok (.aload_n 0, 1) := by decide +kernel
theorem dX11_isAtRim_10 : decode cX11_isAtRim 10 = .ok (.iload_n 1, 1) := by decide +kernel
theorem dX11_isAtRim_11 : decode cX11_isAtRim 11 = .ok (.iload_n 2, 1) := by decide +kernel
theorem dX11_isAtRim_12 : decode cX11_isAtRim 12 = .ok (.iload 4, 2) := by decide +kernel
theorem dX11_isAtRim_14 : decode cX11_isAtRim 14 = .ok (.invokevirtual 175, 3) := by decide +kernel
theorem dX11_isAtRim_17 : decode cX11_isAtRim 17 = .ok (.ifCond .ne 7, 3) := by decide +kernel
theorem dX11_isAtRim_20 : decode cX11_isAtRim 20 = .ok (.iconst 1, 1) := by decide +kernel
theorem dX11_isAtRim_21 : decode cX11_isAtRim 21 = .ok (.goto 4, 3) := by decide +kernel
theorem dX11_isAtRim_24 : decode cX11_isAtRim 24 = .ok (.iconst 0, 1) := by decide +kernel
theorem dX11_isAtRim_25 : decode cX11_isAtRim 25 = .ok (.aload_n 0, 1) := by decide +kernel
theorem dX11_isAtRim_26 : decode cX11_isAtRim 26 = .ok (.iload_n 3, 1) := by decide +kernel
theorem dX11_isAtRim_27 : decode cX11_isAtRim 27 = .ok (.iload 4, 2) := by decide +kernel
theorem dX11_isAtRim_29 : decode cX11_isAtRim 29 = .ok (.invokevirtual 98, 3) := by decide +kernel
theorem dX11_isAtRim_32 : decode cX11_isAtRim 32 = .ok (.ifCond .ge 7, 3) := by decide +kernel
theorem dX11_isAtRim_35 : decode cX11_isAtRim 35 = .ok (.iconst 1, 1) := by decide +kernel
theorem dX11_isAtRim_36 : decode cX11_isAtRim 36 = .ok (.goto 4, 3) := by decide +kernel
theorem dX11_isAtRim_39 : decode cX11_isAtRim 39 = .ok (.iconst 0, 1) := by decide +kernel
theorem dX11_isAtRim_40 : decode cX11_isAtRim 40 = .ok (.if_icmp .eq 5, 3) := by decide +kernel
theorem dX11_isAtRim_43 : decode cX11_isAtRim 43 = .ok (.iconst 0, 1) := by decide +kernel
theorem dX11_isAtRim_44 : decode cX11_isAtRim 44 = .ok (.ireturn, 1) := by decide +kernel
theorem dX11_isAtRim_45 : decode cX11_isAtRim 45 = .ok (.iinc 4 1, 3) := by decide +kernel
theorem dX11_isAtRim_48 : decode cX11_isAtRim 48 = .ok (.goto (-45), 3) := by decide +kernel
theorem dX11_isAtRim_51 : decode cX11_isAtRim 51 = .ok (.iconst 1, 1) := by decide +kernel
theorem dX11_isAtRim_52 : decode cX11_isAtRim 52 = .ok (.ireturn, 1) := by decide +kernel
theorem dX11_doesFit_0 : decode cX11_doesFit 0 = .ok (.aload_n 0, 1) := by decide +kernel
theorem dX11_doesFit_1 : decode cX11_doesFit 1 = .ok (.iload_n 1, 1) := by decide +kernel
theorem dX11_doesFit_2 : decode cX11_doesFit 2 = .ok (.iload_n 2, 1) := by decide +kernel
theorem dX11_doesFit_3 : decode cX11_doesFit 3 = .ok (.iload_n 3, 1) := by decide +kernel
theorem dX11_doesFit_4 : decode cX11_doesFit 4 = .ok (.invokevirtual 178, 3) := by decide +kernel
theorem dX11_doesFit_7 : decode cX11_doesFit 7 = .ok (.ifCond .ne 5, 3) := by decide +kernel
theorem dX11_doesFit_10 : decode cX11_doesFit 10 = .ok (.iconst 0, 1) := by decide +kernel
theorem dX11_doesFit_11 : decode cX11_doesFit 11 = .ok (.ireturn, 1) := by decide +kernel
theorem dX11_doesFit_12 : decode cX11_doesFit 12 = .ok (.iconst 0, 1) := by decide +kernel
theorem dX11_doesFit_13 : decode cX11_doesFit 13 = .ok (.istore 4, 2) := by decide +kernel
theorem dX11_doesFit_15 : decode cX11_doesFit 15 = .ok (.iload 4, 2) := by decide +kernel
theorem dX11_doesFit_17 : decode cX11_doesFit 17 = .ok (.iconst 4, 1) := by decide +kernel
theorem dX11_doesFit_18 : decode cX11_doesFit 18 = .ok (.if_icmp .ge 82, 3) := by decide +kernel
theorem dX11_doesFit_21 : decode cX11_doesFit 21 = .ok (.aload_n 0, 1) := by decide +kernel
theorem dX11_doesFit_22 : decode cX11_doesFit 22 = .ok (.iload_n 3, 1) := by decide +kernel
theorem dX11_doesFit_23 : decode cX11_doesFit 23 = .ok (.iload 4, 2) := by decide +kernel
theorem dX11_doesFit_25 : decode cX11_doesFit 25 = .ok (.invokevirtual 98, 3) := by decide +kernel
theorem dX11_doesFit_28 : decode cX11_doesFit 28 = .ok (.istore 5, 2) := by decide +kernel
theorem dX11_doesFit_30 : decode cX11_doesFit 30 = .ok (.iload 5, 2) := by decide +kernel
theorem dX11_doesFit_32 : decode cX11_doesFit 32 = .ok (.ifCond .lt 62, 3) := by decide +kernel
theorem dX11_doesFit_35 : decode cX11_doesFit 35 = .ok (.aload_n 0, 1) := by decide +kernel
theorem dX11_doesFit_36 : decode cX11_doesFit 36 = .ok (.getfield 22, 3) := by decide +kernel
theorem dX11_doesFit_39 : decode cX11_doesFit 39 = .ok (.iload 5, 2) := by decide +kernel
theorem dX11_doesFit_41 : decode cX11_doesFit 41 = .ok (.iaload, 1) := by decide +kernel
theorem dX11_doesFit_42 : decode cX11_doesFit 42 = .ok (.ifCond .lt 52, 3) := by decide +kernel
theorem dX11_doesFit_45 : decode cX11_doesFit 45 = .ok (.aload_n 0, 1) := by decide +kernel
theorem dX11_doesFit_46 : decode cX11_doesFit 46 = .ok (.getfield 22, 3) := by decide +kernel
theorem dX11_doesFit_49 : decode cX11_doesFit 49 = .ok (.iload 5, 2) := by decide +kernel
theorem dX11_doesFit_51 : decode cX11_doesFit 51 = .ok (.iaload, 1) := by decide +kernel
theorem dX11_doesFit_52 : decode cX11_doesFit 52 = .ok (.iload_n 1, 1) := by decide +kernel
theorem dX11_doesFit_53 : decode cX11_doesFit 53 = .ok (.if_icmp .eq 41, 3) := by decide +kernel
theorem dX11_doesFit_56 : decode cX11_doesFit 56 = .ok (.aload_n 0, 1) := by decide +kernel
theorem dX11_doesFit_57 : decode cX11_doesFit 57 = .ok (.iload_n 1, 1) := by decide +kernel
theorem dX11_doesFit_58 : decode cX11_doesFit 58 = .ok (.iload_n 2, 1) := by decide +kernel
theorem dX11_doesFit_59 : decode cX11_doesFit 59 = .ok (.iload 4, 2) := by decide +kernel
theorem dX11_doesFit_61 : decode cX11_doesFit 61 = .ok (.invokevirtual 175, 3) := by decide +kernel
theorem dX11_doesFit_64 : decode cX11_doesFit 64 = .ok (.aload_n 0, 1) := by decide +kernel
theorem dX11_doesFit_65 : decode cX11_doesFit 65 = .ok (.aload_n 0, 1) := by decide +kernel
theorem dX11_doesFit_66 : decode cX11_doesFit 66 = .ok (.getfield 22, 3) := by decide +kernel
theorem dX11_doesFit_69 : decode cX11_doesFit 69 = .ok (.iload 5, 2) := by decide +kernel
theorem dX11_doesFit_71 : decode cX11_doesFit 71 = .ok (.iaload, 1) := by decide +kernel
theorem dX11_doesFit_72 : decode cX11_doesFit 72 = .ok (.aload_n 0, 1) := by decide +kernel
theorem dX11_doesFit_73 : decode cX11_doesFit 73 = .ok (.getfield 25, 3) := by decide +kernel
theorem dX11_doesFit_76 : decode cX11_doesFit 76 = .ok (.iload 5, 2) := by decide +kernel
theorem dX11_doesFit_78 : decode cX11_doesFit 78 = .ok (.iaload, 1) := by decide +kernel
theorem dX11_doesFit_79 : decode cX11_doesFit 79 = .ok (.iload 4, 2) := by decide +kernel
theorem dX11_doesFit_81 : decode cX11_doesFit 81 = .ok (.iconst 2, 1) := by decide +kernel
theorem dX11_doesFit_82 : decode cX11_doesFit 82 = .ok (.iadd, 1) := by decide +kernel
theorem dX11_doesFit_83 : decode cX11_doesFit 83 = .ok (.iconst 4, 1) := by decide +kernel
theorem dX11_doesFit_84 : decode cX11_doesFit 84 = .ok (.irem, 1) := by decide +kernel
theorem dX11_doesFit_85 : decode cX11_doesFit 85 = .ok (.invokevirtual 175, 3) := by decide +kernel
theorem dX11_doesFit_88 : decode cX11_doesFit 88 = .ok (.iadd, 1) := by decide +kernel
theorem dX11_doesFit_89 : decode cX11_doesFit 89 = .ok (.ifCond .eq 5, 3) := by decide +kernel
theorem dX11_doesFit_92 : decode cX11_doesFit 92 = .ok (.iconst 0, 1) := by decide +kernel
theorem dX11_doesFit_93 : decode cX11_doesFit 93 = .ok (.ireturn, 1) := by decide +kernel
theorem dX11_doesFit_94 : decode cX11_doesFit 94 = .ok (.iinc 4 1, 3) := by decide +kernel
theorem dX11_doesFit_97 : decode cX11_doesFit 97 = .ok (.goto (-82), 3) := by decide +kernel
theorem dX11_doesFit_100 : decode cX11_doesFit 100 = .ok (.iconst 1, 1) := by decide +kernel
theorem dX11_doesFit_101 : decode cX11_doesFit 101 = .ok (.ireturn, 1) := by decide +kernel
theorem dX11_kindAt_0 : decode cX11_kindAt 0 = .ok (.aload_n 0, 1) := by decide +kernel
theorem dX11_kindAt_1 : decode cX11_kindAt 1 = .ok (.iload_n 1, 1) := by decide +kernel
theorem dX11_kindAt_2 : decode cX11_kindAt 2 = .ok (.iload_n 2, 1) := by decide +kernel
theorem dX11_kindAt_3 : decode cX11_kindAt 3 = .ok (.iload_n 3, 1) := by decide +kernel
theorem dX11_kindAt_4 : decode cX11_kindAt 4 = .ok (.invokevirtual 181, 3) := by decide +kernel
theorem dX11_kindAt_7 : decode cX11_kindAt 7 = .ok (.ifCond .eq 18, 3) := by decide +kernel
theorem dX11_kindAt_10 : decode cX11_kindAt 10 = .ok (.iload_n 1, 1) := by decide +kernel
theorem dX11_kindAt_11 : decode cX11_kindAt 11 = .ok (.iload_n 3, 1) := by decide +kernel
theorem dX11_kindAt_12 : decode cX11_kindAt 12 = .ok (.if_icmp .ne 11, 3) := by decide +kernel
theorem dX11_kindAt_15 : decode cX11_kindAt 15 = .ok (.iload_n 2, 1) := by decide +kernel
theorem dX11_kindAt_16 : decode cX11_kindAt 16 = .ok (.ifCond .ne 7, 3) := by decide +kernel
theorem dX11_kindAt_19 : decode cX11_kindAt 19 = .ok (.iconst 1, 1) := by decide +kernel
theorem dX11_kindAt_20 : decode cX11_kindAt 20 = .ok (.goto 4, 3) := by decide +kernel
theorem dX11_kindAt_23 : decode cX11_kindAt 23 = .ok (.iconst 2, 1) := by decide +kernel
theorem dX11_kindAt_24 : decode cX11_kindAt 24 = .ok (.ireturn, 1) := by decide +kernel
theorem dX11_kindAt_25 : decode cX11_kindAt 25 = .ok (.aload_n 0, 1) := by decide +kernel
theorem dX11_kindAt_26 : decode cX11_kindAt 26 = .ok (.iload_n 1, 1) := by decide +kernel
theorem dX11_kindAt_27 : decode cX11_kindAt 27 = .ok (.iload_n 2, 1) := by decide +kernel
theorem dX11_kindAt_28 : decode cX11_kindAt 28 = .ok (.iload_n 3, 1) := by decide +kernel
theorem dX11_kindAt_29 : decode cX11_kindAt 29 = .ok (.invokevirtual 178, 3) := by decide +kernel
theorem dX11_kindAt_32 : decode cX11_kindAt 32 = .ok (.ifCond .eq 7, 3) := by decide +kernel
theorem dX11_kindAt_35 : decode cX11_kindAt 35 = .ok (.iconst 4, 1) := by decide +kernel
theorem dX11_kindAt_36 : decode cX11_kindAt 36 = .ok (.goto 4, 3) := by decide +kernel
theorem dX11_kindAt_39 : decode cX11_kindAt 39 = .ok (.iconst 3, 1) := by decide +kernel
theorem dX11_kindAt_40 : decode cX11_kindAt 40 = .ok (.ireturn, 1) := by decide +kernel
theorem dX11_halfUp_0 : decode cX11_halfUp 0 = .ok (.iload_n 0, 1) := by decide +kernel
theorem dX11_halfUp_1 : decode cX11_halfUp 1 = .ok (.iconst 1, 1) := by decide +kernel
theorem dX11_halfUp_2 : decode cX11_halfUp 2 = .ok (.iadd, 1) := by decide +kernel
theorem dX11_halfUp_3 : decode cX11_halfUp 3 = .ok (.iconst 2, 1) := by decide +kernel
theorem dX11_halfUp_4 : decode cX11_halfUp 4 = .ok (.idiv, 1) := by decide +kernel
theorem dX11_halfUp_5 : decode cX11_halfUp 5 = .ok (.ireturn, 1) := by decide +kernel
theorem dX11_secondsOf_0 : decode cX11_secondsOf 0 = .ok (.aload_n 0, 1) := by decide +kernel
theorem dX11_secondsOf_1 : decode cX11_secondsOf 1 = .ok (.getfield 37, 3) := by decide +kernel
theorem dX11_secondsOf_4 : decode cX11_secondsOf 4 = .ok (.iload_n 1, 1) := by decide +kernel
theorem dX11_secondsOf_5 : decode cX11_secondsOf 5 = .ok (.iaload, 1) := by decide +kernel
theorem dX11_secondsOf_6 : decode cX11_secondsOf 6 = .ok (.istore 5, 2) := by decide +kernel
theorem dX11_secondsOf_8 : decode cX11_secondsOf 8 = .ok (.aload_n 0, 1) := by decide +kernel
theorem dX11_secondsOf_9 : decode cX11_secondsOf 9 = .ok (.getfield 34, 3) := by decide +kernel
theorem dX11_secondsOf_12 : decode cX11_secondsOf 12 = .ok (.iload_n 1, 1) := by decide +kernel
theorem dX11_secondsOf_13 : decode cX11_secondsOf 13 = .ok (.iaload, 1) := by decide +kernel
theorem dX11_secondsOf_14 : decode cX11_secondsOf 14 = .ok (.tableswitch 138 0 3 #[30, 33, 64, 90], 30) := by decide +kernel
theorem dX11_secondsOf_44 : decode cX11_secondsOf 44 = .ok (.goto 111, 3) := by decide +kernel
theorem dX11_secondsOf_47 : decode cX11_secondsOf 47 = .ok (.aload_n 0, 1) := by decide +kernel
theorem dX11_secondsOf_48 : decode cX11_secondsOf 48 = .ok (.getfield 19, 3) := by decide +kernel
theorem dX11_secondsOf_51 : decode cX11_secondsOf 51 = .ok (.iload_n 2, 1) := by decide +kernel
theorem dX11_secondsOf_52 : decode cX11_secondsOf 52 = .ok (.iaload, 1) := by decide +kernel
theorem dX11_secondsOf_53 : decode cX11_secondsOf 53 = .ok (.aload_n 0, 1) := by decide +kernel
theorem dX11_secondsOf_54 : decode cX11_secondsOf 54 = .ok (.getfield 19, 3) := by decide +kernel
theorem dX11_secondsOf_57 : decode cX11_secondsOf 57 = .ok (.iload 4, 2) := by decide +kernel
theorem dX11_secondsOf_59 : decode cX11_secondsOf 59 = .ok (.iaload, 1) := by decide +kernel
theorem dX11_secondsOf_60 : decode cX11_secondsOf 60 = .ok (.if_icmp .ne 11, 3) := by decide +kernel
theorem dX11_secondsOf_63 : decode cX11_secondsOf 63 = .ok (.iload 5, 2) := by decide +kernel
theorem dX11_secondsOf_65 : decode cX11_secondsOf 65 = .ok (.invokestatic 184, 3) := by decide +kernel
theorem dX11_secondsOf_68 : decode cX11_secondsOf 68 = .ok (.goto 5, 3) := by decide +kernel
theorem dX11_secondsOf_71 : decode cX11_secondsOf 71 = .ok (.iload 5, 2) := by decide +kernel
theorem dX11_secondsOf_73 : decode cX11_secondsOf 73 = .ok (.istore 5, 2) := by decide +kernel
theorem dX11_secondsOf_75 : decode cX11_secondsOf 75 = .ok (.goto 80, 3) := by decide +kernel
theorem dX11_secondsOf_78 : decode cX11_secondsOf 78 = .ok (.aload_n 0, 1) := by decide +kernel
theorem dX11_secondsOf_79 : decode cX11_secondsOf 79 = .ok (.iload 4, 2) := by decide +kernel
theorem dX11_secondsOf_81 : decode cX11_secondsOf 81 = .ok (.invokevirtual 187, 3) := by decide +kernel
theorem dX11_secondsOf_84 : decode cX11_secondsOf 84 = .ok (.ifCond .eq 11, 3) := by decide +kernel
theorem dX11_secondsOf_87 : decode cX11_secondsOf 87 = .ok (.iload 5, 2) := by decide +kernel
theorem dX11_secondsOf_89 : decode cX11_secondsOf 89 = .ok (.invokestatic 184, 3) := by decide +kernel
theorem dX11_secondsOf_92 : decode cX11_secondsOf 92 = .ok (.goto 7, 3) := by decide +kernel
theorem dX11_secondsOf_95 : decode cX11_secondsOf 95 = .ok (.iconst 2, 1) := by decide +kernel
theorem dX11_secondsOf_96 : decode cX11_secondsOf 96 = .ok (.iload 5, 2) := by decide +kernel
theorem dX11_secondsOf_98 : decode cX11_secondsOf 98 = .ok (.imul, 1) := by decide +kernel
theorem dX11_secondsOf_99 : decode cX11_secondsOf 99 = .ok (.istore 5, 2) := by decide +kernel
theorem dX11_secondsOf_101 : decode cX11_secondsOf 101 = .ok (.goto 54, 3) := by decide +kernel
theorem dX11_secondsOf_104 : decode cX11_secondsOf 104 = .ok (.aload_n 0, 1) := by decide +kernel
theorem dX11_secondsOf_105 : decode cX11_secondsOf 105 = .ok (.getfield 19, 3) := by decide +kernel
theorem dX11_secondsOf_108 : decode cX11_secondsOf 108 = .ok (.iload_n 2, 1) := by decide +kernel
theorem dX11_secondsOf_109 : decode cX11_secondsOf 109 = .ok (.iaload, 1) := by decide +kernel
theorem dX11_secondsOf_110 : decode cX11_secondsOf 110 = .ok (.iconst 3, 1) := by decide +kernel
theorem dX11_secondsOf_111 : decode cX11_secondsOf 111 = .ok (.if_icmp .ne 10, 3) := by decide +kernel
theorem dX11_secondsOf_114 : decode cX11_secondsOf 114 = .ok (.iconst 3, 1) := by decide +kernel
theorem dX11_secondsOf_115 : decode cX11_secondsOf 115 = .ok (.iload 5, 2) := by decide +kernel
theorem dX11_secondsOf_117 : decode cX11_secondsOf 117 = .ok (.imul, 1) := by decide +kernel
theorem dX11_secondsOf_118 : decode cX11_secondsOf 118 = .ok (.goto 29, 3) := by decide +kernel
theorem dX11_secondsOf_121 : decode cX11_secondsOf 121 = .ok (.aload_n 0, 1) := by decide +kernel
theorem dX11_secondsOf_122 : decode cX11_secondsOf 122 = .ok (.getfield 19, 3) := by decide +kernel
theorem dX11_secondsOf_125 : decode cX11_secondsOf 125 = .ok (.iload_n 2, 1) := by decide +kernel
theorem dX11_secondsOf_126 : decode cX11_secondsOf 126 = .ok (.iaload, 1) := by decide +kernel
theorem dX11_secondsOf_127 : decode cX11_secondsOf 127 = .ok (.aload_n 0, 1) := by decide +kernel
theorem dX11_secondsOf_128 : decode cX11_secondsOf 128 = .ok (.getfield 19, 3) := by decide +kernel
theorem dX11_secondsOf_131 : decode cX11_secondsOf 131 = .ok (.iload 4, 2) := by decide +kernel
theorem dX11_secondsOf_133 : decode cX11_secondsOf 133 = .ok (.iaload, 1) := by decide +kernel
theorem dX11_secondsOf_134 : decode cX11_secondsOf 134 = .ok (.if_icmp .ne 11, 3) := by decide +kernel
theorem dX11_secondsOf_137 : decode cX11_secondsOf 137 = .ok (.iload 5, 2) := by decide +kernel
theorem dX11_secondsOf_139 : decode cX11_secondsOf 139 = .ok (.invokestatic 184, 3) := by decide +kernel
theorem dX11_secondsOf_142 : decode cX11_secondsOf 142 = .ok (.goto 5, 3) := by decide +kernel
theorem dX11_secondsOf_145 : decode cX11_secondsOf 145 = .ok (.iload 5, 2) := by decide +kernel
theorem dX11_secondsOf_147 : decode cX11_secondsOf 147 = .ok (.istore 5, 2) := by decide +kernel
theorem dX11_secondsOf_149 : decode cX11_secondsOf 149 = .ok (.goto 6, 3) := by decide +kernel
theorem dX11_secondsOf_152 : decode cX11_secondsOf 152 = .ok (.iinc 5 2, 3) := by decide +kernel
theorem dX11_secondsOf_155 : decode cX11_secondsOf 155 = .ok (.aload_n 0, 1) := by decide +kernel
theorem dX11_secondsOf_156 : decode cX11_secondsOf 156 = .ok (.iload_n 2, 1) := by decide +kernel
theorem dX11_secondsOf_157 : decode cX11_secondsOf 157 = .ok (.iload_n 3, 1) := by decide +kernel
theorem dX11_secondsOf_158 : decode cX11_secondsOf 158 = .ok (.iload 4, 2) := by decide +kernel
theorem dX11_secondsOf_160 : decode cX11_secondsOf 160 = .ok (.invokevirtual 190, 3) := by decide +kernel
theorem dX11_secondsOf_163 : decode cX11_secondsOf 163 = .ok (.iconst 2, 1) := by decide +kernel
theorem dX11_secondsOf_164 : decode cX11_secondsOf 164 = .ok (.if_icmp .ne 10, 3) := by decide +kernel
theorem dX11_secondsOf_167 : decode cX11_secondsOf 167 = .ok (.iconst 2, 1) := by decide +kernel
theorem dX11_secondsOf_168 : decode cX11_secondsOf 168 = .ok (.iload 5, 2) := by decide +kernel
theorem dX11_secondsOf_170 : decode cX11_secondsOf 170 = .ok (.imul, 1) := by decide +kernel
theorem dX11_secondsOf_171 : decode cX11_secondsOf 171 = .ok (.goto 5, 3) := by decide +kernel
theorem dX11_secondsOf_174 : decode cX11_secondsOf 174 = .ok (.iload 5, 2) := by decide +kernel
theorem dX11_secondsOf_176 : decode cX11_secondsOf 176 = .ok (.ireturn, 1) := by decide +kernel
theorem dX11_isLaid_0 : decode cX11_isLaid 0 = .ok (.iconst 0, 1) := by decide +kernel
theorem dX11_isLaid_1 : decode cX11_isLaid 1 = .ok (.istore_n 2, 1) := by decide +kernel
theorem dX11_isLaid_2 : decode cX11_isLaid 2 = .ok (.iload_n 2, 1) := by decide +kernel
theorem dX11_isLaid_3 : decode cX11_isLaid 3 = .ok (.aload_n 0, 1) := by decide +kernel
theorem dX11_isLaid_4 : decode cX11_isLaid 4 = .ok (.invokevirtual 91, 3) := by decide +kernel
theorem dX11_isLaid_7 : decode cX11_isLaid 7 = .ok (.if_icmp .ge 21, 3) := by decide +kernel
theorem dX11_isLaid_10 : decode cX11_isLaid 10 = .ok (.aload_n 0, 1) := by decide +kernel
theorem dX11_isLaid_11 : decode cX11_isLaid 11 = .ok (.getfield 22, 3) := by decide +kernel
theorem dX11_isLaid_14 : decode cX11_isLaid 14 = .ok (.iload_n 2, 1) := by decide +kernel
theorem dX11_isLaid_15 : decode cX11_isLaid 15 = .ok (.iaload, 1) := by decide +kernel
theorem dX11_isLaid_16 : decode cX11_isLaid 16 = .ok (.iload_n 1, 1) := by decide +kernel
theorem dX11_isLaid_17 : decode cX11_isLaid 17 = .ok (.if_icmp .ne 5, 3) := by decide +kernel
theorem dX11_isLaid_20 : decode cX11_isLaid 20 = .ok (.iconst 1, 1) := by decide +kernel
theorem dX11_isLaid_21 : decode cX11_isLaid 21 = .ok (.ireturn, 1) := by decide +kernel
theorem dX11_isLaid_22 : decode cX11_isLaid 22 = .ok (.iinc 2 1, 3) := by decide +kernel
theorem dX11_isLaid_25 : decode cX11_isLaid 25 = .ok (.goto (-23), 3) := by decide +kernel
theorem dX11_isLaid_28 : decode cX11_isLaid 28 = .ok (.iconst 0, 1) := by decide +kernel
theorem dX11_isLaid_29 : decode cX11_isLaid 29 = .ok (.ireturn, 1) := by decide +kernel
theorem dX11_laidMany_0 : decode cX11_laidMany 0 = .ok (.iconst 0, 1) := by decide +kernel
theorem dX11_laidMany_1 : decode cX11_laidMany 1 = .ok (.istore_n 1, 1) := by decide +kernel
theorem dX11_laidMany_2 : decode cX11_laidMany 2 = .ok (.iconst 0, 1) := by decide +kernel
theorem dX11_laidMany_3 : decode cX11_laidMany 3 = .ok (.istore_n 2, 1) := by decide +kernel
theorem dX11_laidMany_4 : decode cX11_laidMany 4 = .ok (.iload_n 2, 1) := by decide +kernel
theorem dX11_laidMany_5 : decode cX11_laidMany 5 = .ok (.aload_n 0, 1) := by decide +kernel
theorem dX11_laidMany_6 : decode cX11_laidMany 6 = .ok (.invokevirtual 91, 3) := by decide +kernel
theorem dX11_laidMany_9 : decode cX11_laidMany 9 = .ok (.if_icmp .ge 26, 3) := by decide +kernel
theorem dX11_laidMany_12 : decode cX11_laidMany 12 = .ok (.iload_n 1, 1) := by decide +kernel
theorem dX11_laidMany_13 : decode cX11_laidMany 13 = .ok (.aload_n 0, 1) := by decide +kernel
theorem dX11_laidMany_14 : decode cX11_laidMany 14 = .ok (.getfield 22, 3) := by decide +kernel
theorem dX11_laidMany_17 : decode cX11_laidMany 17 = .ok (.iload_n 2, 1) := by decide +kernel
theorem dX11_laidMany_18 : decode cX11_laidMany 18 = .ok (.iaload, 1) := by decide +kernel
theorem dX11_laidMany_19 : decode cX11_laidMany 19 = .ok (.ifCond .lt 7, 3) := by decide +kernel
theorem dX11_laidMany_22 : decode cX11_laidMany 22 = .ok (.iconst 1, 1) := by decide +kernel
theorem dX11_laidMany_23 : decode cX11_laidMany 23 = .ok (.goto 4, 3) := by decide +kernel
theorem dX11_laidMany_26 : decode cX11_laidMany 26 = .ok (.iconst 0, 1) := by decide +kernel
theorem dX11_laidMany_27 : decode cX11_laidMany 27 = .ok (.iadd, 1) := by decide +kernel
theorem dX11_laidMany_28 : decode cX11_laidMany 28 = .ok (.istore_n 1, 1) := by decide +kernel
theorem dX11_laidMany_29 : decode cX11_laidMany 29 = .ok (.iinc 2 1, 3) := by decide +kernel
theorem dX11_laidMany_32 : decode cX11_laidMany 32 = .ok (.goto (-28), 3) := by decide +kernel
theorem dX11_laidMany_35 : decode cX11_laidMany 35 = .ok (.iload_n 1, 1) := by decide +kernel
theorem dX11_laidMany_36 : decode cX11_laidMany 36 = .ok (.ireturn, 1) := by decide +kernel
theorem dX11_lostMany_0 : decode cX11_lostMany 0 = .ok (.iconst 0, 1) := by decide +kernel
theorem dX11_lostMany_1 : decode cX11_lostMany 1 = .ok (.istore_n 1, 1) := by decide +kernel
theorem dX11_lostMany_2 : decode cX11_lostMany 2 = .ok (.iconst 0, 1) := by decide +kernel
theorem dX11_lostMany_3 : decode cX11_lostMany 3 = .ok (.istore_n 2, 1) := by decide +kernel
theorem dX11_lostMany_4 : decode cX11_lostMany 4 = .ok (.iload_n 2, 1) := by decide +kernel
theorem dX11_lostMany_5 : decode cX11_lostMany 5 = .ok (.aload_n 0, 1) := by decide +kernel
theorem dX11_lostMany_6 : decode cX11_lostMany 6 = .ok (.invokevirtual 91, 3) := by decide +kernel
theorem dX11_lostMany_9 : decode cX11_lostMany 9 = .ok (.if_icmp .ge 18, 3) := by decide +kernel
theorem dX11_lostMany_12 : decode cX11_lostMany 12 = .ok (.iload_n 1, 1) := by decide +kernel
theorem dX11_lostMany_13 : decode cX11_lostMany 13 = .ok (.aload_n 0, 1) := by decide +kernel
theorem dX11_lostMany_14 : decode cX11_lostMany 14 = .ok (.getfield 31, 3) := by decide +kernel
theorem dX11_lostMany_17 : decode cX11_lostMany 17 = .ok (.iload_n 2, 1) := by decide +kernel
theorem dX11_lostMany_18 : decode cX11_lostMany 18 = .ok (.iaload, 1) := by decide +kernel
theorem dX11_lostMany_19 : decode cX11_lostMany 19 = .ok (.iadd, 1) := by decide +kernel
theorem dX11_lostMany_20 : decode cX11_lostMany 20 = .ok (.istore_n 1, 1) := by decide +kernel
theorem dX11_lostMany_21 : decode cX11_lostMany 21 = .ok (.iinc 2 1, 3) := by decide +kernel
theorem dX11_lostMany_24 : decode cX11_lostMany 24 = .ok (.goto (-20), 3) := by decide +kernel
theorem dX11_lostMany_27 : decode cX11_lostMany 27 = .ok (.iload_n 1, 1) := by decide +kernel
theorem dX11_lostMany_28 : decode cX11_lostMany 28 = .ok (.ireturn, 1) := by decide +kernel
theorem dX11_side_0 : decode cX11_side 0 = .ok (.aload_n 0, 1) := by decide +kernel
theorem dX11_side_1 : decode cX11_side 1 = .ok (.iload_n 1, 1) := by decide +kernel
theorem dX11_side_2 : decode cX11_side 2 = .ok (.invokevirtual 144, 3) := by decide +kernel
theorem dX11_side_5 : decode cX11_side 5 = .ok (.ifCond .ne 9, 3) := by decide +kernel
theorem dX11_side_8 : decode cX11_side 8 = .ok (.aload_n 0, 1) := by decide +kernel
theorem dX11_side_9 : decode cX11_side 9 = .ok (.iconst (-1), 1) := by decide +kernel
theorem dX11_side_10 : decode cX11_side 10 = .ok (.invokevirtual 193, 3) := by decide +kernel
theorem dX11_side_13 : decode cX11_side 13 = .ok (.ireturn, 1) := by decide +kernel
theorem dX11_side_14 : decode cX11_side 14 = .ok (.iload_n 2, 1) := by decide +kernel
theorem dX11_side_15 : decode cX11_side 15 = .ok (.iconst 0, 1) := by decide +kernel
theorem dX11_side_16 : decode cX11_side 16 = .ok (.iconst 3, 1) := by decide +kernel
theorem dX11_side_17 : decode cX11_side 17 = .ok (.invokestatic 124, 3) := by decide +kernel
theorem dX11_side_20 : decode cX11_side 20 = .ok (.ifCond .eq 12, 3) := by decide +kernel
theorem dX11_side_23 : decode cX11_side 23 = .ok (.iload_n 3, 1) := by decide +kernel
theorem dX11_side_24 : decode cX11_side 24 = .ok (.iconst 0, 1) := by decide +kernel
theorem dX11_side_25 : decode cX11_side 25 = .ok (.iconst 3, 1) := by decide +kernel
theorem dX11_side_26 : decode cX11_side 26 = .ok (.invokestatic 124, 3) := by decide +kernel
theorem dX11_side_29 : decode cX11_side 29 = .ok (.ifCond .ne 10, 3) := by decide +kernel
theorem dX11_side_32 : decode cX11_side 32 = .ok (.aload_n 0, 1) := by decide +kernel
theorem dX11_side_33 : decode cX11_side 33 = .ok (.bipush (-2), 2) := by decide +kernel
theorem dX11_side_35 : decode cX11_side 35 = .ok (.invokevirtual 193, 3) := by decide +kernel
theorem dX11_side_38 : decode cX11_side 38 = .ok (.ireturn, 1) := by decide +kernel
theorem dX11_side_39 : decode cX11_side 39 = .ok (.aload_n 0, 1) := by decide +kernel
theorem dX11_side_40 : decode cX11_side 40 = .ok (.iload_n 1, 1) := by decide +kernel
theorem dX11_side_41 : decode cX11_side 41 = .ok (.iload_n 2, 1) := by decide +kernel
theorem dX11_side_42 : decode cX11_side 42 = .ok (.iload_n 3, 1) := by decide +kernel
theorem dX11_side_43 : decode cX11_side 43 = .ok (.invokevirtual 175, 3) := by decide +kernel
theorem dX11_side_46 : decode cX11_side 46 = .ok (.ireturn, 1) := by decide +kernel
theorem dX11_colour_0 : decode cX11_colour 0 = .ok (.aload_n 0, 1) := by decide +kernel
theorem dX11_colour_1 : decode cX11_colour 1 = .ok (.iload_n 1, 1) := by decide +kernel
theorem dX11_colour_2 : decode cX11_colour 2 = .ok (.invokevirtual 144, 3) := by decide +kernel
theorem dX11_colour_5 : decode cX11_colour 5 = .ok (.ifCond .eq 12, 3) := by decide +kernel
theorem dX11_colour_8 : decode cX11_colour 8 = .ok (.aload_n 0, 1) := by decide +kernel
theorem dX11_colour_9 : decode cX11_colour 9 = .ok (.getfield 19, 3) := by decide +kernel
theorem dX11_colour_12 : decode cX11_colour 12 = .ok (.iload_n 1, 1) := by decide +kernel
theorem dX11_colour_13 : decode cX11_colour 13 = .ok (.iaload, 1) := by decide +kernel
theorem dX11_colour_14 : decode cX11_colour 14 = .ok (.goto 8, 3) := by decide +kernel
theorem dX11_colour_17 : decode cX11_colour 17 = .ok (.aload_n 0, 1) := by decide +kernel
theorem dX11_colour_18 : decode cX11_colour 18 = .ok (.iconst (-1), 1) := by decide +kernel
theorem dX11_colour_19 : decode cX11_colour 19 = .ok (.invokevirtual 112, 3) := by decide +kernel
theorem dX11_colour_22 : decode cX11_colour 22 = .ok (.ireturn, 1) := by decide +kernel
theorem dX11_person_0 : decode cX11_person 0 = .ok (.aload_n 0, 1) := by decide +kernel
theorem dX11_person_1 : decode cX11_person 1 = .ok (.iload_n 1, 1) := by decide +kernel
theorem dX11_person_2 : decode cX11_person 2 = .ok (.invokevirtual 196, 3) := by decide +kernel
theorem dX11_person_5 : decode cX11_person 5 = .ok (.ifCond .ne 9, 3) := by decide +kernel
theorem dX11_person_8 : decode cX11_person 8 = .ok (.aload_n 0, 1) := by decide +kernel
theorem dX11_person_9 : decode cX11_person 9 = .ok (.iconst (-1), 1) := by decide +kernel
theorem dX11_person_10 : decode cX11_person 10 = .ok (.invokevirtual 112, 3) := by decide +kernel
theorem dX11_person_13 : decode cX11_person 13 = .ok (.ireturn, 1) := by decide +kernel
theorem dX11_person_14 : decode cX11_person 14 = .ok (.iconst 0, 1) := by decide +kernel
theorem dX11_person_15 : decode cX11_person 15 = .ok (.istore_n 3, 1) := by decide +kernel
theorem dX11_person_16 : decode cX11_person 16 = .ok (.iload_n 2, 1) := by decide +kernel
theorem dX11_person_17 : decode cX11_person 17 = .ok (.tableswitch 101 0 3 #[31, 38, 45, 94], 31) := by decide +kernel
theorem dX11_person_48 : decode cX11_person 48 = .ok (.aload_n 0, 1) := by decide +kernel
theorem dX11_person_49 : decode cX11_person 49 = .ok (.getfield 34, 3) := by decide +kernel
theorem dX11_person_52 : decode cX11_person 52 = .ok (.iload_n 1, 1) := by decide +kernel
theorem dX11_person_53 : decode cX11_person 53 = .ok (.iaload, 1) := by decide +kernel
theorem dX11_person_54 : decode cX11_person 54 = .ok (.ireturn, 1) := by decide +kernel
theorem dX11_person_55 : decode cX11_person 55 = .ok (.aload_n 0, 1) := by decide +kernel
theorem dX11_person_56 : decode cX11_person 56 = .ok (.getfield 37, 3) := by decide +kernel
theorem dX11_person_59 : decode cX11_person 59 = .ok (.iload_n 1, 1) := by decide +kernel
theorem dX11_person_60 : decode cX11_person 60 = .ok (.iaload, 1) := by decide +kernel
theorem dX11_person_61 : decode cX11_person 61 = .ok (.ireturn, 1) := by decide +kernel
theorem dX11_person_62 : decode cX11_person 62 = .ok (.iconst 0, 1) := by decide +kernel
theorem dX11_person_63 : decode cX11_person 63 = .ok (.istore 4, 2) := by decide +kernel
theorem dX11_person_65 : decode cX11_person 65 = .ok (.iload 4, 2) := by decide +kernel
theorem dX11_person_67 : decode cX11_person 67 = .ok (.aload_n 0, 1) := by decide +kernel
theorem dX11_person_68 : decode cX11_person 68 = .ok (.invokevirtual 91, 3) := by decide +kernel
theorem dX11_person_71 : decode cX11_person 71 = .ok (.if_icmp .ge 38, 3) := by decide +kernel
theorem dX11_person_74 : decode cX11_person 74 = .ok (.iload_n 3, 1) := by decide +kernel
theorem dX11_person_75 : decode cX11_person 75 = .ok (.aload_n 0, 1) := by decide +kernel
theorem dX11_person_76 : decode cX11_person 76 = .ok (.getfield 22, 3) := by decide +kernel
theorem dX11_person_79 : decode cX11_person 79 = .ok (.iload 4, 2) := by decide +kernel
theorem dX11_person_81 : decode cX11_person 81 = .ok (.iaload, 1) := by decide +kernel
theorem dX11_person_82 : decode cX11_person 82 = .ok (.ifCond .lt 18, 3) := by decide +kernel
theorem dX11_person_85 : decode cX11_person 85 = .ok (.aload_n 0, 1) := by decide +kernel
theorem dX11_person_86 : decode cX11_person 86 = .ok (.getfield 28, 3) := by decide +kernel
theorem dX11_person_89 : decode cX11_person 89 = .ok (.iload 4, 2) := by decide +kernel
theorem dX11_person_91 : decode cX11_person 91 = .ok (.iaload, 1) := by decide +kernel
theorem dX11_person_92 : decode cX11_person 92 = .ok (.iload_n 1, 1) := by decide +kernel
theorem dX11_person_93 : decode cX11_person 93 = .ok (.if_icmp .ne 7, 3) := by decide +kernel
theorem dX11_person_96 : decode cX11_person 96 = .ok (.iconst 1, 1) := by decide +kernel
theorem dX11_person_97 : decode cX11_person 97 = .ok (.goto 4, 3) := by decide +kernel
theorem dX11_person_100 : decode cX11_person 100 = .ok (.iconst 0, 1) := by decide +kernel
theorem dX11_person_101 : decode cX11_person 101 = .ok (.iadd, 1) := by decide +kernel
theorem dX11_person_102 : decode cX11_person 102 = .ok (.istore_n 3, 1) := by decide +kernel
theorem dX11_person_103 : decode cX11_person 103 = .ok (.iinc 4 1, 3) := by decide +kernel
theorem dX11_person_106 : decode cX11_person 106 = .ok (.goto (-41), 3) := by decide +kernel
theorem dX11_person_109 : decode cX11_person 109 = .ok (.iload_n 3, 1) := by decide +kernel
theorem dX11_person_110 : decode cX11_person 110 = .ok (.ireturn, 1) := by decide +kernel
theorem dX11_person_111 : decode cX11_person 111 = .ok (.aload_n 0, 1) := by decide +kernel
theorem dX11_person_112 : decode cX11_person 112 = .ok (.getfield 40, 3) := by decide +kernel
theorem dX11_person_115 : decode cX11_person 115 = .ok (.iload_n 1, 1) := by decide +kernel
theorem dX11_person_116 : decode cX11_person 116 = .ok (.iaload, 1) := by decide +kernel
theorem dX11_person_117 : decode cX11_person 117 = .ok (.ireturn, 1) := by decide +kernel
theorem dX11_person_118 : decode cX11_person 118 = .ok (.aload_n 0, 1) := by decide +kernel
theorem dX11_person_119 : decode cX11_person 119 = .ok (.bipush (-2), 2) := by decide +kernel
theorem dX11_person_121 : decode cX11_person 121 = .ok (.invokevirtual 112, 3) := by decide +kernel
theorem dX11_person_124 : decode cX11_person 124 = .ok (.ireturn, 1) := by decide +kernel
theorem dX11_laid_0 : decode cX11_laid 0 = .ok (.aload_n 0, 1) := by decide +kernel
theorem dX11_laid_1 : decode cX11_laid 1 = .ok (.iload_n 1, 1) := by decide +kernel
theorem dX11_laid_2 : decode cX11_laid 2 = .ok (.invokevirtual 144, 3) := by decide +kernel
theorem dX11_laid_5 : decode cX11_laid 5 = .ok (.ifCond .ne 9, 3) := by decide +kernel
theorem dX11_laid_8 : decode cX11_laid 8 = .ok (.aload_n 0, 1) := by decide +kernel
theorem dX11_laid_9 : decode cX11_laid 9 = .ok (.iconst (-1), 1) := by decide +kernel
theorem dX11_laid_10 : decode cX11_laid 10 = .ok (.invokevirtual 112, 3) := by decide +kernel
theorem dX11_laid_13 : decode cX11_laid 13 = .ok (.ireturn, 1) := by decide +kernel
theorem dX11_laid_14 : decode cX11_laid 14 = .ok (.iload_n 2, 1) := by decide +kernel
theorem dX11_laid_15 : decode cX11_laid 15 = .ok (.iconst 0, 1) := by decide +kernel
theorem dX11_laid_16 : decode cX11_laid 16 = .ok (.iconst 2, 1) := by decide +kernel
theorem dX11_laid_17 : decode cX11_laid 17 = .ok (.invokestatic 124, 3) := by decide +kernel
theorem dX11_laid_20 : decode cX11_laid 20 = .ok (.ifCond .ne 10, 3) := by decide +kernel
theorem dX11_laid_23 : decode cX11_laid 23 = .ok (.aload_n 0, 1) := by decide +kernel
theorem dX11_laid_24 : decode cX11_laid 24 = .ok (.bipush (-2), 2) := by decide +kernel
theorem dX11_laid_26 : decode cX11_laid 26 = .ok (.invokevirtual 112, 3) := by decide +kernel
theorem dX11_laid_29 : decode cX11_laid 29 = .ok (.ireturn, 1) := by decide +kernel
theorem dX11_laid_30 : decode cX11_laid 30 = .ok (.aload_n 0, 1) := by decide +kernel
theorem dX11_laid_31 : decode cX11_laid 31 = .ok (.getfield 22, 3) := by decide +kernel
theorem dX11_laid_34 : decode cX11_laid 34 = .ok (.iload_n 1, 1) := by decide +kernel
theorem dX11_laid_35 : decode cX11_laid 35 = .ok (.iaload, 1) := by decide +kernel
theorem dX11_laid_36 : decode cX11_laid 36 = .ok (.ifCond .ge 8, 3) := by decide +kernel
theorem dX11_laid_39 : decode cX11_laid 39 = .ok (.bipush (-9), 2) := by decide +kernel
theorem dX11_laid_41 : decode cX11_laid 41 = .ok (.goto 36, 3) := by decide +kernel
theorem dX11_laid_44 : decode cX11_laid 44 = .ok (.iload_n 2, 1) := by decide +kernel
theorem dX11_laid_45 : decode cX11_laid 45 = .ok (.ifCond .ne 12, 3) := by decide +kernel
theorem dX11_laid_48 : decode cX11_laid 48 = .ok (.aload_n 0, 1) := by decide +kernel
theorem dX11_laid_49 : decode cX11_laid 49 = .ok (.getfield 22, 3) := by decide +kernel
theorem dX11_laid_52 : decode cX11_laid 52 = .ok (.iload_n 1, 1) := by decide +kernel
theorem dX11_laid_53 : decode cX11_laid 53 = .ok (.iaload, 1) := by decide +kernel
theorem dX11_laid_54 : decode cX11_laid 54 = .ok (.goto 23, 3) := by decide +kernel
theorem dX11_laid_57 : decode cX11_laid 57 = .ok (.iload_n 2, 1) := by decide +kernel
theorem dX11_laid_58 : decode cX11_laid 58 = .ok (.iconst 1, 1) := by decide +kernel
theorem dX11_laid_59 : decode cX11_laid 59 = .ok (.if_icmp .ne 12, 3) := by decide +kernel
theorem dX11_laid_62 : decode cX11_laid 62 = .ok (.aload_n 0, 1) := by decide +kernel
theorem dX11_laid_63 : decode cX11_laid 63 = .ok (.getfield 25, 3) := by decide +kernel
theorem dX11_laid_66 : decode cX11_laid 66 = .ok (.iload_n 1, 1) := by decide +kernel
theorem dX11_laid_67 : decode cX11_laid 67 = .ok (.iaload, 1) := by decide +kernel
theorem dX11_laid_68 : decode cX11_laid 68 = .ok (.goto 9, 3) := by decide +kernel
theorem dX11_laid_71 : decode cX11_laid 71 = .ok (.aload_n 0, 1) := by decide +kernel
theorem dX11_laid_72 : decode cX11_laid 72 = .ok (.getfield 28, 3) := by decide +kernel
theorem dX11_laid_75 : decode cX11_laid 75 = .ok (.iload_n 1, 1) := by decide +kernel
theorem dX11_laid_76 : decode cX11_laid 76 = .ok (.iaload, 1) := by decide +kernel
theorem dX11_laid_77 : decode cX11_laid 77 = .ok (.ireturn, 1) := by decide +kernel
theorem dX11_fits_0 : decode cX11_fits 0 = .ok (.aload_n 0, 1) := by decide +kernel
theorem dX11_fits_1 : decode cX11_fits 1 = .ok (.iload_n 1, 1) := by decide +kernel
theorem dX11_fits_2 : decode cX11_fits 2 = .ok (.invokevirtual 144, 3) := by decide +kernel
theorem dX11_fits_5 : decode cX11_fits 5 = .ok (.ifCond .eq 11, 3) := by decide +kernel
theorem dX11_fits_8 : decode cX11_fits 8 = .ok (.aload_n 0, 1) := by decide +kernel
theorem dX11_fits_9 : decode cX11_fits 9 = .ok (.iload_n 3, 1) := by decide +kernel
theorem dX11_fits_10 : decode cX11_fits 10 = .ok (.invokevirtual 144, 3) := by decide +kernel
theorem dX11_fits_13 : decode cX11_fits 13 = .ok (.ifCond .ne 9, 3) := by decide +kernel
theorem dX11_fits_16 : decode cX11_fits 16 = .ok (.aload_n 0, 1) := by decide +kernel
theorem dX11_fits_17 : decode cX11_fits 17 = .ok (.iconst (-1), 1) := by decide +kernel
theorem dX11_fits_18 : decode cX11_fits 18 = .ok (.invokevirtual 112, 3) := by decide +kernel
theorem dX11_fits_21 : decode cX11_fits 21 = .ok (.ireturn, 1) := by decide +kernel
theorem dX11_fits_22 : decode cX11_fits 22 = .ok (.iload_n 2, 1) := by decide +kernel
theorem dX11_fits_23 : decode cX11_fits 23 = .ok (.iconst 0, 1) := by decide +kernel
theorem dX11_fits_24 : decode cX11_fits 24 = .ok (.iconst 3, 1) := by decide +kernel
theorem dX11_fits_25 : decode cX11_fits 25 = .ok (.invokestatic 124, 3) := by decide +kernel
theorem dX11_fits_28 : decode cX11_fits 28 = .ok (.ifCond .ne 10, 3) := by decide +kernel
theorem dX11_fits_31 : decode cX11_fits 31 = .ok (.aload_n 0, 1) := by decide +kernel
theorem dX11_fits_32 : decode cX11_fits 32 = .ok (.bipush (-2), 2) := by decide +kernel
theorem dX11_fits_34 : decode cX11_fits 34 = .ok (.invokevirtual 112, 3) := by decide +kernel
theorem dX11_fits_37 : decode cX11_fits 37 = .ok (.ireturn, 1) := by decide +kernel
theorem dX11_fits_38 : decode cX11_fits 38 = .ok (.aload_n 0, 1) := by decide +kernel
theorem dX11_fits_39 : decode cX11_fits 39 = .ok (.iload_n 1, 1) := by decide +kernel
theorem dX11_fits_40 : decode cX11_fits 40 = .ok (.iload_n 2, 1) := by decide +kernel
theorem dX11_fits_41 : decode cX11_fits 41 = .ok (.iload_n 3, 1) := by decide +kernel
theorem dX11_fits_42 : decode cX11_fits 42 = .ok (.invokevirtual 181, 3) := by decide +kernel
theorem dX11_fits_45 : decode cX11_fits 45 = .ok (.ifCond .eq 7, 3) := by decide +kernel
theorem dX11_fits_48 : decode cX11_fits 48 = .ok (.iconst 1, 1) := by decide +kernel
theorem dX11_fits_49 : decode cX11_fits 49 = .ok (.goto 4, 3) := by decide +kernel
theorem dX11_fits_52 : decode cX11_fits 52 = .ok (.iconst 0, 1) := by decide +kernel
theorem dX11_fits_53 : decode cX11_fits 53 = .ok (.ireturn, 1) := by decide +kernel
theorem dX11_seconds_0 : decode cX11_seconds 0 = .ok (.aload_n 0, 1) := by decide +kernel
theorem dX11_seconds_1 : decode cX11_seconds 1 = .ok (.iload_n 1, 1) := by decide +kernel
theorem dX11_seconds_2 : decode cX11_seconds 2 = .ok (.invokevirtual 196, 3) := by decide +kernel
theorem dX11_seconds_5 : decode cX11_seconds 5 = .ok (.ifCond .eq 20, 3) := by decide +kernel
theorem dX11_seconds_8 : decode cX11_seconds 8 = .ok (.aload_n 0, 1) := by decide +kernel
theorem dX11_seconds_9 : decode cX11_seconds 9 = .ok (.iload_n 2, 1) := by decide +kernel
theorem dX11_seconds_10 : decode cX11_seconds 10 = .ok (.invokevirtual 144, 3) := by decide +kernel
theorem dX11_seconds_13 : decode cX11_seconds 13 = .ok (.ifCond .eq 12, 3) := by decide +kernel
theorem dX11_seconds_16 : decode cX11_seconds 16 = .ok (.aload_n 0, 1) := by decide +kernel
theorem dX11_seconds_17 : decode cX11_seconds 17 = .ok (.iload 4, 2) := by decide +kernel
theorem dX11_seconds_19 : decode cX11_seconds 19 = .ok (.invokevirtual 144, 3) := by decide +kernel
theorem dX11_seconds_22 : decode cX11_seconds 22 = .ok (.ifCond .ne 9, 3) := by decide +kernel
theorem dX11_seconds_25 : decode cX11_seconds 25 = .ok (.aload_n 0, 1) := by decide +kernel
theorem dX11_seconds_26 : decode cX11_seconds 26 = .ok (.iconst (-1), 1) := by decide +kernel
theorem dX11_seconds_27 : decode cX11_seconds 27 = .ok (.invokevirtual 112, 3) := by decide +kernel
theorem dX11_seconds_30 : decode cX11_seconds 30 = .ok (.ireturn, 1) := by decide +kernel
theorem dX11_seconds_31 : decode cX11_seconds 31 = .ok (.iload_n 3, 1) := by decide +kernel
theorem dX11_seconds_32 : decode cX11_seconds 32 = .ok (.iconst 0, 1) := by decide +kernel
theorem dX11_seconds_33 : decode cX11_seconds 33 = .ok (.iconst 3, 1) := by decide +kernel
theorem dX11_seconds_34 : decode cX11_seconds 34 = .ok (.invokestatic 124, 3) := by decide +kernel
theorem dX11_seconds_37 : decode cX11_seconds 37 = .ok (.ifCond .ne 10, 3) := by decide +kernel
theorem dX11_seconds_40 : decode cX11_seconds 40 = .ok (.aload_n 0, 1) := by decide +kernel
theorem dX11_seconds_41 : decode cX11_seconds 41 = .ok (.bipush (-2), 2) := by decide +kernel
theorem dX11_seconds_43 : decode cX11_seconds 43 = .ok (.invokevirtual 112, 3) := by decide +kernel
theorem dX11_seconds_46 : decode cX11_seconds 46 = .ok (.ireturn, 1) := by decide +kernel
theorem dX11_seconds_47 : decode cX11_seconds 47 = .ok (.aload_n 0, 1) := by decide +kernel
theorem dX11_seconds_48 : decode cX11_seconds 48 = .ok (.getfield 22, 3) := by decide +kernel
theorem dX11_seconds_51 : decode cX11_seconds 51 = .ok (.iload 4, 2) := by decide +kernel
theorem dX11_seconds_53 : decode cX11_seconds 53 = .ok (.iaload, 1) := by decide +kernel
theorem dX11_seconds_54 : decode cX11_seconds 54 = .ok (.ifCond .lt 12, 3) := by decide +kernel
theorem dX11_seconds_57 : decode cX11_seconds 57 = .ok (.aload_n 0, 1) := by decide +kernel
theorem dX11_seconds_58 : decode cX11_seconds 58 = .ok (.bipush (-3), 2) := by decide +kernel
theorem dX11_seconds_60 : decode cX11_seconds 60 = .ok (.invokevirtual 112, 3) := by decide +kernel
theorem dX11_seconds_63 : decode cX11_seconds 63 = .ok (.goto 12, 3) := by decide +kernel
theorem dX11_seconds_66 : decode cX11_seconds 66 = .ok (.aload_n 0, 1) := by decide +kernel
theorem dX11_seconds_67 : decode cX11_seconds 67 = .ok (.iload_n 1, 1) := by decide +kernel
theorem dX11_seconds_68 : decode cX11_seconds 68 = .ok (.iload_n 2, 1) := by decide +kernel
theorem dX11_seconds_69 : decode cX11_seconds 69 = .ok (.iload_n 3, 1) := by decide +kernel
theorem dX11_seconds_70 : decode cX11_seconds 70 = .ok (.iload 4, 2) := by decide +kernel
theorem dX11_seconds_72 : decode cX11_seconds 72 = .ok (.invokevirtual 199, 3) := by decide +kernel
theorem dX11_seconds_75 : decode cX11_seconds 75 = .ok (.ireturn, 1) := by decide +kernel
theorem dX11_tries_0 : decode cX11_tries 0 = .ok (.aload_n 0, 1) := by decide +kernel
theorem dX11_tries_1 : decode cX11_tries 1 = .ok (.iload_n 2, 1) := by decide +kernel
theorem dX11_tries_2 : decode cX11_tries 2 = .ok (.iload_n 3, 1) := by decide +kernel
theorem dX11_tries_3 : decode cX11_tries 3 = .ok (.iload 4, 2) := by decide +kernel
theorem dX11_tries_5 : decode cX11_tries 5 = .ok (.invokevirtual 190, 3) := by decide +kernel
theorem dX11_tries_8 : decode cX11_tries 8 = .ok (.istore 5, 2) := by decide +kernel
theorem dX11_tries_10 : decode cX11_tries 10 = .ok (.aload_n 0, 1) := by decide +kernel
theorem dX11_tries_11 : decode cX11_tries 11 = .ok (.getfield 40, 3) := by decide +kernel
theorem dX11_tries_14 : decode cX11_tries 14 = .ok (.iload_n 1, 1) := by decide +kernel
theorem dX11_tries_15 : decode cX11_tries 15 = .ok (.dup2, 1) := by decide +kernel
theorem dX11_tries_16 : decode cX11_tries 16 = .ok (.iaload, 1) := by decide +kernel
theorem dX11_tries_17 : decode cX11_tries 17 = .ok (.aload_n 0, 1) := by decide +kernel
theorem dX11_tries_18 : decode cX11_tries 18 = .ok (.iload_n 1, 1) := by decide +kernel
theorem dX11_tries_19 : decode cX11_tries 19 = .ok (.iload_n 2, 1) := by decide +kernel
theorem dX11_tries_20 : decode cX11_tries 20 = .ok (.iload_n 3, 1) := by decide +kernel
theorem dX11_tries_21 : decode cX11_tries 21 = .ok (.iload 4, 2) := by decide +kernel
theorem dX11_tries_23 : decode cX11_tries 23 = .ok (.invokevirtual 199, 3) := by decide +kernel
theorem dX11_tries_26 : decode cX11_tries 26 = .ok (.iadd, 1) := by decide +kernel
theorem dX11_tries_27 : decode cX11_tries 27 = .ok (.iastore, 1) := by decide +kernel
theorem dX11_tries_28 : decode cX11_tries 28 = .ok (.aload_n 0, 1) := by decide +kernel
theorem dX11_tries_29 : decode cX11_tries 29 = .ok (.dup, 1) := by decide +kernel
theorem dX11_tries_30 : decode cX11_tries 30 = .ok (.getfield 172, 3) := by decide +kernel
theorem dX11_tries_33 : decode cX11_tries 33 = .ok (.iconst 1, 1) := by decide +kernel
theorem dX11_tries_34 : decode cX11_tries 34 = .ok (.iadd, 1) := by decide +kernel
theorem dX11_tries_35 : decode cX11_tries 35 = .ok (.putfield 172, 3) := by decide +kernel
theorem dX11_tries_38 : decode cX11_tries 38 = .ok (.iload 5, 2) := by decide +kernel
theorem dX11_tries_40 : decode cX11_tries 40 = .ok (.iconst 1, 1) := by decide +kernel
theorem dX11_tries_41 : decode cX11_tries 41 = .ok (.if_icmp .eq 9, 3) := by decide +kernel
theorem dX11_tries_44 : decode cX11_tries 44 = .ok (.iload 5, 2) := by decide +kernel
theorem dX11_tries_46 : decode cX11_tries 46 = .ok (.iconst 2, 1) := by decide +kernel
theorem dX11_tries_47 : decode cX11_tries 47 = .ok (.if_icmp .ne 27, 3) := by decide +kernel
theorem dX11_tries_50 : decode cX11_tries 50 = .ok (.aload_n 0, 1) := by decide +kernel
theorem dX11_tries_51 : decode cX11_tries 51 = .ok (.getfield 22, 3) := by decide +kernel
theorem dX11_tries_54 : decode cX11_tries 54 = .ok (.iload 4, 2) := by decide +kernel
theorem dX11_tries_56 : decode cX11_tries 56 = .ok (.iload_n 2, 1) := by decide +kernel
theorem dX11_tries_57 : decode cX11_tries 57 = .ok (.iastore, 1) := by decide +kernel
theorem dX11_tries_58 : decode cX11_tries 58 = .ok (.aload_n 0, 1) := by decide +kernel
theorem dX11_tries_59 : decode cX11_tries 59 = .ok (.getfield 25, 3) := by decide +kernel
theorem dX11_tries_62 : decode cX11_tries 62 = .ok (.iload 4, 2) := by decide +kernel
theorem dX11_tries_64 : decode cX11_tries 64 = .ok (.iload_n 3, 1) := by decide +kernel
theorem dX11_tries_65 : decode cX11_tries 65 = .ok (.iastore, 1) := by decide +kernel
theorem dX11_tries_66 : decode cX11_tries 66 = .ok (.aload_n 0, 1) := by decide +kernel
theorem dX11_tries_67 : decode cX11_tries 67 = .ok (.getfield 28, 3) := by decide +kernel
theorem dX11_tries_70 : decode cX11_tries 70 = .ok (.iload 4, 2) := by decide +kernel
theorem dX11_tries_72 : decode cX11_tries 72 = .ok (.iload_n 1, 1) := by decide +kernel
theorem dX11_tries_73 : decode cX11_tries 73 = .ok (.iastore, 1) := by decide +kernel
theorem dX11_tries_74 : decode cX11_tries 74 = .ok (.iload 5, 2) := by decide +kernel
theorem dX11_tries_76 : decode cX11_tries 76 = .ok (.ireturn, 1) := by decide +kernel
theorem dX11_tryIt_0 : decode cX11_tryIt 0 = .ok (.aload_n 0, 1) := by decide +kernel
theorem dX11_tryIt_1 : decode cX11_tryIt 1 = .ok (.iload_n 1, 1) := by decide +kernel
theorem dX11_tryIt_2 : decode cX11_tryIt 2 = .ok (.invokevirtual 196, 3) := by decide +kernel
theorem dX11_tryIt_5 : decode cX11_tryIt 5 = .ok (.ifCond .eq 20, 3) := by decide +kernel
theorem dX11_tryIt_8 : decode cX11_tryIt 8 = .ok (.aload_n 0, 1) := by decide +kernel
theorem dX11_tryIt_9 : decode cX11_tryIt 9 = .ok (.iload_n 2, 1) := by decide +kernel
theorem dX11_tryIt_10 : decode cX11_tryIt 10 = .ok (.invokevirtual 144, 3) := by decide +kernel
theorem dX11_tryIt_13 : decode cX11_tryIt 13 = .ok (.ifCond .eq 12, 3) := by decide +kernel
theorem dX11_tryIt_16 : decode cX11_tryIt 16 = .ok (.aload_n 0, 1) := by decide +kernel
theorem dX11_tryIt_17 : decode cX11_tryIt 17 = .ok (.iload 4, 2) := by decide +kernel
theorem dX11_tryIt_19 : decode cX11_tryIt 19 = .ok (.invokevirtual 144, 3) := by decide +kernel
theorem dX11_tryIt_22 : decode cX11_tryIt 22 = .ok (.ifCond .ne 9, 3) := by decide +kernel
theorem dX11_tryIt_25 : decode cX11_tryIt 25 = .ok (.aload_n 0, 1) := by decide +kernel
theorem dX11_tryIt_26 : decode cX11_tryIt 26 = .ok (.iconst (-1), 1) := by decide +kernel
theorem dX11_tryIt_27 : decode cX11_tryIt 27 = .ok (.invokevirtual 112, 3) := by decide +kernel
theorem dX11_tryIt_30 : decode cX11_tryIt 30 = .ok (.ireturn, 1) := by decide +kernel
theorem dX11_tryIt_31 : decode cX11_tryIt 31 = .ok (.iload_n 3, 1) := by decide +kernel
theorem dX11_tryIt_32 : decode cX11_tryIt 32 = .ok (.iconst 0, 1) := by decide +kernel
theorem dX11_tryIt_33 : decode cX11_tryIt 33 = .ok (.iconst 3, 1) := by decide +kernel
theorem dX11_tryIt_34 : decode cX11_tryIt 34 = .ok (.invokestatic 124, 3) := by decide +kernel
theorem dX11_tryIt_37 : decode cX11_tryIt 37 = .ok (.ifCond .ne 10, 3) := by decide +kernel
theorem dX11_tryIt_40 : decode cX11_tryIt 40 = .ok (.aload_n 0, 1) := by decide +kernel
theorem dX11_tryIt_41 : decode cX11_tryIt 41 = .ok (.bipush (-2), 2) := by decide +kernel
theorem dX11_tryIt_43 : decode cX11_tryIt 43 = .ok (.invokevirtual 112, 3) := by decide +kernel
theorem dX11_tryIt_46 : decode cX11_tryIt 46 = .ok (.ireturn, 1) := by decide +kernel
theorem dX11_tryIt_47 : decode cX11_tryIt 47 = .ok (.aload_n 0, 1) := by decide +kernel
theorem dX11_tryIt_48 : decode cX11_tryIt 48 = .ok (.getfield 22, 3) := by decide +kernel
theorem dX11_tryIt_51 : decode cX11_tryIt 51 = .ok (.iload 4, 2) := by decide +kernel
theorem dX11_tryIt_53 : decode cX11_tryIt 53 = .ok (.iaload, 1) := by decide +kernel
theorem dX11_tryIt_54 : decode cX11_tryIt 54 = .ok (.ifCond .ge 21, 3) := by decide +kernel
theorem dX11_tryIt_57 : decode cX11_tryIt 57 = .ok (.aload_n 0, 1) := by decide +kernel
theorem dX11_tryIt_58 : decode cX11_tryIt 58 = .ok (.iload_n 2, 1) := by decide +kernel
theorem dX11_tryIt_59 : decode cX11_tryIt 59 = .ok (.invokevirtual 203, 3) := by decide +kernel
theorem dX11_tryIt_62 : decode cX11_tryIt 62 = .ok (.ifCond .ne 13, 3) := by decide +kernel
theorem dX11_tryIt_65 : decode cX11_tryIt 65 = .ok (.aload_n 0, 1) := by decide +kernel
theorem dX11_tryIt_66 : decode cX11_tryIt 66 = .ok (.getfield 31, 3) := by decide +kernel
theorem dX11_tryIt_69 : decode cX11_tryIt 69 = .ok (.iload_n 2, 1) := by decide +kernel
theorem dX11_tryIt_70 : decode cX11_tryIt 70 = .ok (.iaload, 1) := by decide +kernel
theorem dX11_tryIt_71 : decode cX11_tryIt 71 = .ok (.iconst 1, 1) := by decide +kernel
theorem dX11_tryIt_72 : decode cX11_tryIt 72 = .ok (.if_icmp .ne 10, 3) := by decide +kernel
theorem dX11_tryIt_75 : decode cX11_tryIt 75 = .ok (.aload_n 0, 1) := by decide +kernel
theorem dX11_tryIt_76 : decode cX11_tryIt 76 = .ok (.bipush (-3), 2) := by decide +kernel
theorem dX11_tryIt_78 : decode cX11_tryIt 78 = .ok (.invokevirtual 112, 3) := by decide +kernel
theorem dX11_tryIt_81 : decode cX11_tryIt 81 = .ok (.ireturn, 1) := by decide +kernel
theorem dX11_tryIt_82 : decode cX11_tryIt 82 = .ok (.aload_n 0, 1) := by decide +kernel
theorem dX11_tryIt_83 : decode cX11_tryIt 83 = .ok (.iload_n 1, 1) := by decide +kernel
theorem dX11_tryIt_84 : decode cX11_tryIt 84 = .ok (.iload_n 2, 1) := by decide +kernel
theorem dX11_tryIt_85 : decode cX11_tryIt 85 = .ok (.iload_n 3, 1) := by decide +kernel
theorem dX11_tryIt_86 : decode cX11_tryIt 86 = .ok (.iload 4, 2) := by decide +kernel
theorem dX11_tryIt_88 : decode cX11_tryIt 88 = .ok (.invokevirtual 206, 3) := by decide +kernel
theorem dX11_tryIt_91 : decode cX11_tryIt 91 = .ok (.ireturn, 1) := by decide +kernel
theorem dX11_lift_0 : decode cX11_lift 0 = .ok (.aload_n 0, 1) := by decide +kernel
theorem dX11_lift_1 : decode cX11_lift 1 = .ok (.iload_n 1, 1) := by decide +kernel
theorem dX11_lift_2 : decode cX11_lift 2 = .ok (.invokevirtual 144, 3) := by decide +kernel
theorem dX11_lift_5 : decode cX11_lift 5 = .ok (.ifCond .ne 9, 3) := by decide +kernel
theorem dX11_lift_8 : decode cX11_lift 8 = .ok (.aload_n 0, 1) := by decide +kernel
theorem dX11_lift_9 : decode cX11_lift 9 = .ok (.iconst (-1), 1) := by decide +kernel
theorem dX11_lift_10 : decode cX11_lift 10 = .ok (.invokevirtual 112, 3) := by decide +kernel
theorem dX11_lift_13 : decode cX11_lift 13 = .ok (.ireturn, 1) := by decide +kernel
theorem dX11_lift_14 : decode cX11_lift 14 = .ok (.aload_n 0, 1) := by decide +kernel
theorem dX11_lift_15 : decode cX11_lift 15 = .ok (.getfield 22, 3) := by decide +kernel
theorem dX11_lift_18 : decode cX11_lift 18 = .ok (.iload_n 1, 1) := by decide +kernel
theorem dX11_lift_19 : decode cX11_lift 19 = .ok (.iaload, 1) := by decide +kernel
theorem dX11_lift_20 : decode cX11_lift 20 = .ok (.ifCond .ge 10, 3) := by decide +kernel
theorem dX11_lift_23 : decode cX11_lift 23 = .ok (.aload_n 0, 1) := by decide +kernel
theorem dX11_lift_24 : decode cX11_lift 24 = .ok (.bipush (-3), 2) := by decide +kernel
theorem dX11_lift_26 : decode cX11_lift 26 = .ok (.invokevirtual 112, 3) := by decide +kernel
theorem dX11_lift_29 : decode cX11_lift 29 = .ok (.ireturn, 1) := by decide +kernel
theorem dX11_lift_30 : decode cX11_lift 30 = .ok (.aload_n 0, 1) := by decide +kernel
theorem dX11_lift_31 : decode cX11_lift 31 = .ok (.getfield 22, 3) := by decide +kernel
theorem dX11_lift_34 : decode cX11_lift 34 = .ok (.iload_n 1, 1) := by decide +kernel
theorem dX11_lift_35 : decode cX11_lift 35 = .ok (.iaload, 1) := by decide +kernel
theorem dX11_lift_36 : decode cX11_lift 36 = .ok (.istore_n 2, 1) := by decide +kernel
theorem dX11_lift_37 : decode cX11_lift 37 = .ok (.aload_n 0, 1) := by decide +kernel
theorem dX11_lift_38 : decode cX11_lift 38 = .ok (.getfield 22, 3) := by decide +kernel
theorem dX11_lift_41 : decode cX11_lift 41 = .ok (.iload_n 1, 1) := by decide +kernel
theorem dX11_lift_42 : decode cX11_lift 42 = .ok (.iconst (-1), 1) := by decide +kernel
theorem dX11_lift_43 : decode cX11_lift 43 = .ok (.iastore, 1) := by decide +kernel
theorem dX11_lift_44 : decode cX11_lift 44 = .ok (.iload_n 2, 1) := by decide +kernel
theorem dX11_lift_45 : decode cX11_lift 45 = .ok (.ireturn, 1) := by decide +kernel
theorem dX11_pocket_0 : decode cX11_pocket 0 = .ok (.aload_n 0, 1) := by decide +kernel
theorem dX11_pocket_1 : decode cX11_pocket 1 = .ok (.iload_n 1, 1) := by decide +kernel
theorem dX11_pocket_2 : decode cX11_pocket 2 = .ok (.invokevirtual 144, 3) := by decide +kernel
theorem dX11_pocket_5 : decode cX11_pocket 5 = .ok (.ifCond .ne 9, 3) := by decide +kernel
theorem dX11_pocket_8 : decode cX11_pocket 8 = .ok (.aload_n 0, 1) := by decide +kernel
theorem dX11_pocket_9 : decode cX11_pocket 9 = .ok (.iconst (-1), 1) := by decide +kernel
theorem dX11_pocket_10 : decode cX11_pocket 10 = .ok (.invokevirtual 112, 3) := by decide +kernel
theorem dX11_pocket_13 : decode cX11_pocket 13 = .ok (.ireturn, 1) := by decide +kernel
theorem dX11_pocket_14 : decode cX11_pocket 14 = .ok (.aload_n 0, 1) := by decide +kernel
theorem dX11_pocket_15 : decode cX11_pocket 15 = .ok (.iload_n 1, 1) := by decide +kernel
theorem dX11_pocket_16 : decode cX11_pocket 16 = .ok (.invokevirtual 203, 3) := by decide +kernel
theorem dX11_pocket_19 : decode cX11_pocket 19 = .ok (.ifCond .ne 13, 3) := by decide +kernel
theorem dX11_pocket_22 : decode cX11_pocket 22 = .ok (.aload_n 0, 1) := by decide +kernel
theorem dX11_pocket_23 : decode cX11_pocket 23 = .ok (.getfield 31, 3) := by decide +kernel
theorem dX11_pocket_26 : decode cX11_pocket 26 = .ok (.iload_n 1, 1) := by decide +kernel
theorem dX11_pocket_27 : decode cX11_pocket 27 = .ok (.iaload, 1) := by decide +kernel
theorem dX11_pocket_28 : decode cX11_pocket 28 = .ok (.iconst 1, 1) := by decide +kernel
theorem dX11_pocket_29 : decode cX11_pocket 29 = .ok (.if_icmp .ne 10, 3) := by decide +kernel
theorem dX11_pocket_32 : decode cX11_pocket 32 = .ok (.aload_n 0, 1) := by decide +kernel
theorem dX11_pocket_33 : decode cX11_pocket 33 = .ok (.bipush (-3), 2) := by decide +kernel
theorem dX11_pocket_35 : decode cX11_pocket 35 = .ok (.invokevirtual 112, 3) := by decide +kernel
theorem dX11_pocket_38 : decode cX11_pocket 38 = .ok (.ireturn, 1) := by decide +kernel
theorem dX11_pocket_39 : decode cX11_pocket 39 = .ok (.aload_n 0, 1) := by decide +kernel
theorem dX11_pocket_40 : decode cX11_pocket 40 = .ok (.getfield 31, 3) := by decide +kernel
theorem dX11_pocket_43 : decode cX11_pocket 43 = .ok (.iload_n 1, 1) := by decide +kernel
theorem dX11_pocket_44 : decode cX11_pocket 44 = .ok (.iconst 1, 1) := by decide +kernel
theorem dX11_pocket_45 : decode cX11_pocket 45 = .ok (.iastore, 1) := by decide +kernel
theorem dX11_pocket_46 : decode cX11_pocket 46 = .ok (.aload_n 0, 1) := by decide +kernel
theorem dX11_pocket_47 : decode cX11_pocket 47 = .ok (.invokevirtual 208, 3) := by decide +kernel
theorem dX11_pocket_50 : decode cX11_pocket 50 = .ok (.ireturn, 1) := by decide +kernel
theorem dX11_find_0 : decode cX11_find 0 = .ok (.aload_n 0, 1) := by decide +kernel
theorem dX11_find_1 : decode cX11_find 1 = .ok (.iload_n 1, 1) := by decide +kernel
theorem dX11_find_2 : decode cX11_find 2 = .ok (.invokevirtual 144, 3) := by decide +kernel
theorem dX11_find_5 : decode cX11_find 5 = .ok (.ifCond .ne 9, 3) := by decide +kernel
theorem dX11_find_8 : decode cX11_find 8 = .ok (.aload_n 0, 1) := by decide +kernel
theorem dX11_find_9 : decode cX11_find 9 = .ok (.iconst (-1), 1) := by decide +kernel
theorem dX11_find_10 : decode cX11_find 10 = .ok (.invokevirtual 112, 3) := by decide +kernel
theorem dX11_find_13 : decode cX11_find 13 = .ok (.ireturn, 1) := by decide +kernel
theorem dX11_find_14 : decode cX11_find 14 = .ok (.aload_n 0, 1) := by decide +kernel
theorem dX11_find_15 : decode cX11_find 15 = .ok (.getfield 31, 3) := by decide +kernel
theorem dX11_find_18 : decode cX11_find 18 = .ok (.iload_n 1, 1) := by decide +kernel
theorem dX11_find_19 : decode cX11_find 19 = .ok (.iaload, 1) := by decide +kernel
theorem dX11_find_20 : decode cX11_find 20 = .ok (.ifCond .ne 10, 3) := by decide +kernel
theorem dX11_find_23 : decode cX11_find 23 = .ok (.aload_n 0, 1) := by decide +kernel
theorem dX11_find_24 : decode cX11_find 24 = .ok (.bipush (-3), 2) := by decide +kernel
theorem dX11_find_26 : decode cX11_find 26 = .ok (.invokevirtual 112, 3) := by decide +kernel
theorem dX11_find_29 : decode cX11_find 29 = .ok (.ireturn, 1) := by decide +kernel
theorem dX11_find_30 : decode cX11_find 30 = .ok (.aload_n 0, 1) := by decide +kernel
theorem dX11_find_31 : decode cX11_find 31 = .ok (.getfield 31, 3) := by decide +kernel
theorem dX11_find_34 : decode cX11_find 34 = .ok (.iload_n 1, 1) := by decide +kernel
theorem dX11_find_35 : decode cX11_find 35 = .ok (.iconst 0, 1) := by decide +kernel
theorem dX11_find_36 : decode cX11_find 36 = .ok (.iastore, 1) := by decide +kernel
theorem dX11_find_37 : decode cX11_find 37 = .ok (.aload_n 0, 1) := by decide +kernel
theorem dX11_find_38 : decode cX11_find 38 = .ok (.invokevirtual 208, 3) := by decide +kernel
theorem dX11_find_41 : decode cX11_find 41 = .ok (.ireturn, 1) := by decide +kernel
theorem dX11_findWays_0 : decode cX11_findWays 0 = .ok (.aload_n 0, 1) := by decide +kernel
theorem dX11_findWays_1 : decode cX11_findWays 1 = .ok (.iconst 1, 1) := by decide +kernel
theorem dX11_findWays_2 : decode cX11_findWays 2 = .ok (.iconst 1, 1) := by decide +kernel
theorem dX11_findWays_3 : decode cX11_findWays 3 = .ok (.invokevirtual 151, 3) := by decide +kernel
theorem dX11_findWays_6 : decode cX11_findWays 6 = .ok (.iconst 0, 1) := by decide +kernel
theorem dX11_findWays_7 : decode cX11_findWays 7 = .ok (.istore_n 1, 1) := by decide +kernel
theorem dX11_findWays_8 : decode cX11_findWays 8 = .ok (.iload_n 1, 1) := by decide +kernel
theorem dX11_findWays_9 : decode cX11_findWays 9 = .ok (.bipush 16, 2) := by decide +kernel
theorem dX11_findWays_11 : decode cX11_findWays 11 = .ok (.if_icmp .ge 16, 3) := by decide +kernel
theorem dX11_findWays_14 : decode cX11_findWays 14 = .ok (.aload_n 0, 1) := by decide +kernel
theorem dX11_findWays_15 : decode cX11_findWays 15 = .ok (.getfield 22, 3) := by decide +kernel
theorem dX11_findWays_18 : decode cX11_findWays 18 = .ok (.iload_n 1, 1) := by decide +kernel
theorem dX11_findWays_19 : decode cX11_findWays 19 = .ok (.iconst (-1), 1) := by decide +kernel
theorem dX11_findWays_20 : decode cX11_findWays 20 = .ok (.iastore, 1) := by decide +kernel
theorem dX11_findWays_21 : decode cX11_findWays 21 = .ok (.iinc 1 1, 3) := by decide +kernel
theorem dX11_findWays_24 : decode cX11_findWays 24 = .ok (.goto (-16), 3) := by decide +kernel
theorem dX11_findWays_27 : decode cX11_findWays 27 = .ok (.aload_n 0, 1) := by decide +kernel
theorem dX11_findWays_28 : decode cX11_findWays 28 = .ok (.iconst 0, 1) := by decide +kernel
theorem dX11_findWays_29 : decode cX11_findWays 29 = .ok (.putfield 211, 3) := by decide +kernel
theorem dX11_findWays_32 : decode cX11_findWays 32 = .ok (.aload_n 0, 1) := by decide +kernel
theorem dX11_findWays_33 : decode cX11_findWays 33 = .ok (.iconst 0, 1) := by decide +kernel
theorem dX11_findWays_34 : decode cX11_findWays 34 = .ok (.putfield 214, 3) := by decide +kernel
theorem dX11_findWays_37 : decode cX11_findWays 37 = .ok (.aload_n 0, 1) := by decide +kernel
theorem dX11_findWays_38 : decode cX11_findWays 38 = .ok (.iconst 0, 1) := by decide +kernel
theorem dX11_findWays_39 : decode cX11_findWays 39 = .ok (.putfield 217, 3) := by decide +kernel
theorem dX11_findWays_42 : decode cX11_findWays 42 = .ok (.iconst 0, 1) := by decide +kernel
theorem dX11_findWays_43 : decode cX11_findWays 43 = .ok (.istore_n 1, 1) := by decide +kernel
theorem dX11_findWays_44 : decode cX11_findWays 44 = .ok (.iconst 0, 1) := by decide +kernel
theorem dX11_findWays_45 : decode cX11_findWays 45 = .ok (.istore_n 2, 1) := by decide +kernel
theorem dX11_findWays_46 : decode cX11_findWays 46 = .ok (.iconst 0, 1) := by decide +kernel
theorem dX11_findWays_47 : decode cX11_findWays 47 = .ok (.istore_n 3, 1) := by decide +kernel
theorem dX11_findWays_48 : decode cX11_findWays 48 = .ok (.iload_n 1, 1) := by decide +kernel
theorem dX11_findWays_49 : decode cX11_findWays 49 = .ok (.ifCond .lt 250, 3) := by decide +kernel
theorem dX11_findWays_52 : decode cX11_findWays 52 = .ok (.aload_n 0, 1) := by decide +kernel
theorem dX11_findWays_53 : decode cX11_findWays 53 = .ok (.getfield 214, 3) := by decide +kernel
theorem dX11_findWays_56 : decode cX11_findWays 56 = .ok (.sipush 20000, 3) := by decide +kernel
theorem dX11_findWays_59 : decode cX11_findWays 59 = .ok (.if_icmp .gt 240, 3) := by decide +kernel
theorem dX11_findWays_62 : decode cX11_findWays 62 = .ok (.iload_n 1, 1) := by decide +kernel
theorem dX11_findWays_63 : decode cX11_findWays 63 = .ok (.aload_n 0, 1) := by decide +kernel
theorem dX11_findWays_64 : decode cX11_findWays 64 = .ok (.invokevirtual 91, 3) := by decide +kernel
theorem dX11_findWays_67 : decode cX11_findWays 67 = .ok (.if_icmp .eq 13, 3) := by decide +kernel
theorem dX11_findWays_70 : decode cX11_findWays 70 = .ok (.iload_n 2, 1) := by decide +kernel
theorem dX11_findWays_71 : decode cX11_findWays 71 = .ok (.iconst 4, 1) := by decide +kernel
theorem dX11_findWays_72 : decode cX11_findWays 72 = .ok (.aload_n 0, 1) := by decide +kernel
theorem dX11_findWays_73 : decode cX11_findWays 73 = .ok (.invokevirtual 91, 3) := by decide +kernel
theorem dX11_findWays_76 : decode cX11_findWays 76 = .ok (.imul, 1) := by decide +kernel
theorem dX11_findWays_77 : decode cX11_findWays 77 = .ok (.if_icmp .ne 130, 3) := by decide +kernel
theorem dX11_findWays_80 : decode cX11_findWays 80 = .ok (.iload_n 1, 1) := by decide +kernel
theorem dX11_findWays_81 : decode cX11_findWays 81 = .ok (.aload_n 0, 1) := by decide +kernel
theorem dX11_findWays_82 : decode cX11_findWays 82 = .ok (.invokevirtual 91, 3) := by decide +kernel
theorem dX11_findWays_85 : decode cX11_findWays 85 = .ok (.if_icmp .ne 71, 3) := by decide +kernel
theorem dX11_findWays_88 : decode cX11_findWays 88 = .ok (.aload_n 0, 1) := by decide +kernel
theorem dX11_findWays_89 : decode cX11_findWays 89 = .ok (.dup, 1) := by decide +kernel
theorem dX11_findWays_90 : decode cX11_findWays 90 = .ok (.getfield 211, 3) := by decide +kernel
theorem dX11_findWays_93 : decode cX11_findWays 93 = .ok (.iconst 1, 1) := by decide +kernel
theorem dX11_findWays_94 : decode cX11_findWays 94 = .ok (.iadd, 1) := by decide +kernel
theorem dX11_findWays_95 : decode cX11_findWays 95 = .ok (.putfield 211, 3) := by decide +kernel
theorem dX11_findWays_98 : decode cX11_findWays 98 = .ok (.iconst 0, 1) := by decide +kernel
theorem dX11_findWays_99 : decode cX11_findWays 99 = .ok (.istore 4, 2) := by decide +kernel
theorem dX11_findWays_101 : decode cX11_findWays 101 = .ok (.iload 4, 2) := by decide +kernel
theorem dX11_findWays_103 : decode cX11_findWays 103 = .ok (.aload_n 0, 1) := by decide +kernel
theorem dX11_findWays_104 : decode cX11_findWays 104 = .ok (.invokevirtual 91, 3) := by decide +kernel
theorem dX11_findWays_107 : decode cX11_findWays 107 = .ok (.if_icmp .ge 44, 3) := by decide +kernel
theorem dX11_findWays_110 : decode cX11_findWays 110 = .ok (.aload_n 0, 1) := by decide +kernel
theorem dX11_findWays_111 : decode cX11_findWays 111 = .ok (.getfield 217, 3) := by decide +kernel
theorem dX11_findWays_114 : decode cX11_findWays 114 = .ok (.ifCond .ne 37, 3) := by decide +kernel
theorem dX11_findWays_117 : decode cX11_findWays 117 = .ok (.aload_n 0, 1) := by decide +kernel
theorem dX11_findWays_118 : decode cX11_findWays 118 = .ok (.getfield 64, 3) := by decide +kernel
theorem dX11_findWays_121 : decode cX11_findWays 121 = .ok (.iload 4, 2) := by decide +kernel
theorem dX11_findWays_123 : decode cX11_findWays 123 = .ok (.aload_n 0, 1) := by decide +kernel
theorem dX11_findWays_124 : decode cX11_findWays 124 = .ok (.getfield 22, 3) := by decide +kernel
theorem dX11_findWays_127 : decode cX11_findWays 127 = .ok (.iload 4, 2) := by decide +kernel
theorem dX11_findWays_129 : decode cX11_findWays 129 = .ok (.iaload, 1) := by decide +kernel
theorem dX11_findWays_130 : decode cX11_findWays 130 = .ok (.iastore, 1) := by decide +kernel
theorem dX11_findWays_131 : decode cX11_findWays 131 = .ok (.aload_n 0, 1) := by decide +kernel
theorem dX11_findWays_132 : decode cX11_findWays 132 = .ok (.getfield 67, 3) := by decide +kernel
theorem dX11_findWays_135 : decode cX11_findWays 135 = .ok (.iload 4, 2) := by decide +kernel
theorem dX11_findWays_137 : decode cX11_findWays 137 = .ok (.aload_n 0, 1) := by decide +kernel
theorem dX11_findWays_138 : decode cX11_findWays 138 = .ok (.getfield 25, 3) := by decide +kernel
theorem dX11_findWays_141 : decode cX11_findWays 141 = .ok (.iload 4, 2) := by decide +kernel
theorem dX11_findWays_143 : decode cX11_findWays 143 = .ok (.iaload, 1) := by decide +kernel
theorem dX11_findWays_144 : decode cX11_findWays 144 = .ok (.iastore, 1) := by decide +kernel
theorem dX11_findWays_145 : decode cX11_findWays 145 = .ok (.iinc 4 1, 3) := by decide +kernel
theorem dX11_findWays_148 : decode cX11_findWays 148 = .ok (.goto (-47), 3) := by decide +kernel
theorem dX11_findWays_151 : decode cX11_findWays 151 = .ok (.aload_n 0, 1) := by decide +kernel
theorem dX11_findWays_152 : decode cX11_findWays 152 = .ok (.iconst 1, 1) := by decide +kernel
theorem dX11_findWays_153 : decode cX11_findWays 153 = .ok (.putfield 217, 3) := by decide +kernel
theorem dX11_findWays_156 : decode cX11_findWays 156 = .ok (.iinc 1 (-1), 3) := by decide +kernel
theorem dX11_findWays_159 : decode cX11_findWays 159 = .ok (.iload_n 1, 1) := by decide +kernel
theorem dX11_findWays_160 : decode cX11_findWays 160 = .ok (.ifCond .ge 6, 3) := by decide +kernel
theorem dX11_findWays_163 : decode cX11_findWays 163 = .ok (.goto (-115), 3) := by decide +kernel
theorem dX11_findWays_166 : decode cX11_findWays 166 = .ok (.iconst 4, 1) := by decide +kernel
theorem dX11_findWays_167 : decode cX11_findWays 167 = .ok (.aload_n 0, 1) := by decide +kernel
theorem dX11_findWays_168 : decode cX11_findWays 168 = .ok (.getfield 22, 3) := by decide +kernel
theorem dX11_findWays_171 : decode cX11_findWays 171 = .ok (.iload_n 1, 1) := by decide +kernel
theorem dX11_findWays_172 : decode cX11_findWays 172 = .ok (.iaload, 1) := by decide +kernel
theorem dX11_findWays_173 : decode cX11_findWays 173 = .ok (.imul, 1) := by decide +kernel
theorem dX11_findWays_174 : decode cX11_findWays 174 = .ok (.aload_n 0, 1) := by decide +kernel
theorem dX11_findWays_175 : decode cX11_findWays 175 = .ok (.getfield 25, 3) := by decide +kernel
theorem dX11_findWays_178 : decode cX11_findWays 178 = .ok (.iload_n 1, 1) := by decide +kernel
theorem dX11_findWays_179 : decode cX11_findWays 179 = .ok (.iaload, 1) := by decide +kernel
theorem dX11_findWays_180 : decode cX11_findWays 180 = .ok (.iadd, 1) := by decide +kernel
theorem dX11_findWays_181 : decode cX11_findWays 181 = .ok (.iconst 1, 1) := by decide +kernel
theorem dX11_findWays_182 : decode cX11_findWays 182 = .ok (.iadd, 1) := by decide +kernel
theorem dX11_findWays_183 : decode cX11_findWays 183 = .ok (.istore_n 2, 1) := by decide +kernel
theorem dX11_findWays_184 : decode cX11_findWays 184 = .ok (.iload_n 3, 1) := by decide +kernel
theorem dX11_findWays_185 : decode cX11_findWays 185 = .ok (.iconst 1, 1) := by decide +kernel
theorem dX11_findWays_186 : decode cX11_findWays 186 = .ok (.aload_n 0, 1) := by decide +kernel
theorem dX11_findWays_187 : decode cX11_findWays 187 = .ok (.getfield 22, 3) := by decide +kernel
theorem dX11_findWays_190 : decode cX11_findWays 190 = .ok (.iload_n 1, 1) := by decide +kernel
theorem dX11_findWays_191 : decode cX11_findWays 191 = .ok (.iaload, 1) := by decide +kernel
theorem dX11_findWays_192 : decode cX11_findWays 192 = .ok (.ishl, 1) := by decide +kernel
theorem dX11_findWays_193 : decode cX11_findWays 193 = .ok (.iconst (-1), 1) := by decide +kernel
theorem dX11_findWays_194 : decode cX11_findWays 194 = .ok (.ixor, 1) := by decide +kernel
theorem dX11_findWays_195 : decode cX11_findWays 195 = .ok (.iand, 1) := by decide +kernel
theorem dX11_findWays_196 : decode cX11_findWays 196 = .ok (.istore_n 3, 1) := by decide +kernel
theorem dX11_findWays_197 : decode cX11_findWays 197 = .ok (.aload_n 0, 1) := by decide +kernel
theorem dX11_findWays_198 : decode cX11_findWays 198 = .ok (.getfield 22, 3) := by decide +kernel
theorem dX11_findWays_201 : decode cX11_findWays 201 = .ok (.iload_n 1, 1) := by decide +kernel
theorem dX11_findWays_202 : decode cX11_findWays 202 = .ok (.iconst (-1), 1) := by decide +kernel
theorem dX11_findWays_203 : decode cX11_findWays 203 = .ok (.iastore, 1) := by decide +kernel
theorem dX11_findWays_204 : decode cX11_findWays 204 = .ok (.goto (-156), 3) := by decide +kernel
theorem dX11_findWays_207 : decode cX11_findWays 207 = .ok (.iload_n 2, 1) := by decide +kernel
theorem dX11_findWays_208 : decode cX11_findWays 208 = .ok (.iconst 4, 1) := by decide +kernel
theorem dX11_findWays_209 : decode cX11_findWays 209 = .ok (.idiv, 1) := by decide +kernel
theorem dX11_findWays_210 : decode cX11_findWays 210 = .ok (.istore 4, 2) := by decide +kernel
theorem dX11_findWays_212 : decode cX11_findWays 212 = .ok (.iload_n 2, 1) := by decide +kernel
theorem dX11_findWays_213 : decode cX11_findWays 213 = .ok (.iconst 4, 1) := by decide +kernel
theorem dX11_findWays_214 : decode cX11_findWays 214 = .ok (.irem, 1) := by decide +kernel
theorem dX11_findWays_215 : decode cX11_findWays 215 = .ok (.istore 5, 2) := by decide +kernel
theorem dX11_findWays_217 : decode cX11_findWays 217 = .ok (.iinc 2 1, 3) := by decide +kernel
theorem dX11_findWays_220 : decode cX11_findWays 220 = .ok (.iload_n 3, 1) := by decide +kernel
theorem dX11_findWays_221 : decode cX11_findWays 221 = .ok (.iload 4, 2) := by decide +kernel
theorem dX11_findWays_223 : decode cX11_findWays 223 = .ok (.ishr, 1) := by decide +kernel
theorem dX11_findWays_224 : decode cX11_findWays 224 = .ok (.iconst 1, 1) := by decide +kernel
theorem dX11_findWays_225 : decode cX11_findWays 225 = .ok (.iand, 1) := by decide +kernel
theorem dX11_findWays_226 : decode cX11_findWays 226 = .ok (.iconst 1, 1) := by decide +kernel
theorem dX11_findWays_227 : decode cX11_findWays 227 = .ok (.if_icmp .ne 6, 3) := by decide +kernel
theorem dX11_findWays_230 : decode cX11_findWays 230 = .ok (.goto (-182), 3) := by decide +kernel
theorem dX11_findWays_233 : decode cX11_findWays 233 = .ok (.aload_n 0, 1) := by decide +kernel
theorem dX11_findWays_234 : decode cX11_findWays 234 = .ok (.dup, 1) := by decide +kernel
theorem dX11_findWays_235 : decode cX11_findWays 235 = .ok (.getfield 214, 3) := by decide +kernel
theorem dX11_findWays_238 : decode cX11_findWays 238 = .ok (.iconst 1, 1) := by decide +kernel
theorem dX11_findWays_239 : decode cX11_findWays 239 = .ok (.iadd, 1) := by decide +kernel
theorem dX11_findWays_240 : decode cX11_findWays 240 = .ok (.putfield 214, 3) := by decide +kernel
theorem dX11_findWays_243 : decode cX11_findWays 243 = .ok (.aload_n 0, 1) := by decide +kernel
theorem dX11_findWays_244 : decode cX11_findWays 244 = .ok (.getfield 214, 3) := by decide +kernel
theorem dX11_findWays_247 : decode cX11_findWays 247 = .ok (.sipush 20000, 3) := by decide +kernel
theorem dX11_findWays_250 : decode cX11_findWays 250 = .ok (.if_icmp .gt (-202), 3) := by decide +kernel
theorem dX11_findWays_253 : decode cX11_findWays 253 = .ok (.aload_n 0, 1) := by decide +kernel
theorem dX11_findWays_254 : decode cX11_findWays 254 = .ok (.iload 4, 2) := by decide +kernel
theorem dX11_findWays_256 : decode cX11_findWays 256 = .ok (.iload 5, 2) := by decide +kernel
theorem dX11_findWays_258 : decode cX11_findWays 258 = .ok (.iload_n 1, 1) := by decide +kernel
theorem dX11_findWays_259 : decode cX11_findWays 259 = .ok (.invokevirtual 181, 3) := by decide +kernel
theorem dX11_findWays_262 : decode cX11_findWays 262 = .ok (.ifCond .ne 6, 3) := by decide +kernel
theorem dX11_findWays_265 : decode cX11_findWays 265 = .ok (.goto (-217), 3) := by decide +kernel
theorem dX11_findWays_268 : decode cX11_findWays 268 = .ok (.aload_n 0, 1) := by decide +kernel
theorem dX11_findWays_269 : decode cX11_findWays 269 = .ok (.getfield 22, 3) := by decide +kernel
theorem dX11_findWays_272 : decode cX11_findWays 272 = .ok (.iload_n 1, 1) := by decide +kernel
theorem dX11_findWays_273 : decode cX11_findWays 273 = .ok (.iload 4, 2) := by decide +kernel
theorem dX11_findWays_275 : decode cX11_findWays 275 = .ok (.iastore, 1) := by decide +kernel
theorem dX11_findWays_276 : decode cX11_findWays 276 = .ok (.aload_n 0, 1) := by decide +kernel
theorem dX11_findWays_277 : decode cX11_findWays 277 = .ok (.getfield 25, 3) := by decide +kernel
theorem dX11_findWays_280 : decode cX11_findWays 280 = .ok (.iload_n 1, 1) := by decide +kernel
theorem dX11_findWays_281 : decode cX11_findWays 281 = .ok (.iload 5, 2) := by decide +kernel
theorem dX11_findWays_283 : decode cX11_findWays 283 = .ok (.iastore, 1) := by decide +kernel
theorem dX11_findWays_284 : decode cX11_findWays 284 = .ok (.iload_n 3, 1) := by decide +kernel
theorem dX11_findWays_285 : decode cX11_findWays 285 = .ok (.iconst 1, 1) := by decide +kernel
theorem dX11_findWays_286 : decode cX11_findWays 286 = .ok (.iload 4, 2) := by decide +kernel
theorem dX11_findWays_288 : decode cX11_findWays 288 = .ok (.ishl, 1) := by decide +kernel
theorem dX11_findWays_289 : decode cX11_findWays 289 = .ok (.ior, 1) := by decide +kernel
theorem dX11_findWays_290 : decode cX11_findWays 290 = .ok (.istore_n 3, 1) := by decide +kernel
theorem dX11_findWays_291 : decode cX11_findWays 291 = .ok (.iinc 1 1, 3) := by decide +kernel
theorem dX11_findWays_294 : decode cX11_findWays 294 = .ok (.iconst 0, 1) := by decide +kernel
theorem dX11_findWays_295 : decode cX11_findWays 295 = .ok (.istore_n 2, 1) := by decide +kernel
theorem dX11_findWays_296 : decode cX11_findWays 296 = .ok (.goto (-248), 3) := by decide +kernel
theorem dX11_findWays_299 : decode cX11_findWays 299 = .ok (.aload_n 0, 1) := by decide +kernel
theorem dX11_findWays_300 : decode cX11_findWays 300 = .ok (.iconst 1, 1) := by decide +kernel
theorem dX11_findWays_301 : decode cX11_findWays 301 = .ok (.iconst 0, 1) := by decide +kernel
theorem dX11_findWays_302 : decode cX11_findWays 302 = .ok (.invokevirtual 151, 3) := by decide +kernel
theorem dX11_findWays_305 : decode cX11_findWays 305 = .ok (.return_, 1) := by decide +kernel
theorem dX11_ways_0 : decode cX11_ways 0 = .ok (.iload_n 1, 1) := by decide +kernel
theorem dX11_ways_1 : decode cX11_ways 1 = .ok (.iconst 0, 1) := by decide +kernel
theorem dX11_ways_2 : decode cX11_ways 2 = .ok (.iconst 1, 1) := by decide +kernel
theorem dX11_ways_3 : decode cX11_ways 3 = .ok (.invokestatic 124, 3) := by decide +kernel
theorem dX11_ways_6 : decode cX11_ways 6 = .ok (.ifCond .ne 10, 3) := by decide +kernel
theorem dX11_ways_9 : decode cX11_ways 9 = .ok (.aload_n 0, 1) := by decide +kernel
theorem dX11_ways_10 : decode cX11_ways 10 = .ok (.bipush (-2), 2) := by decide +kernel
theorem dX11_ways_12 : decode cX11_ways 12 = .ok (.invokevirtual 112, 3) := by decide +kernel
theorem dX11_ways_15 : decode cX11_ways 15 = .ok (.ireturn, 1) := by decide +kernel
theorem dX11_ways_16 : decode cX11_ways 16 = .ok (.aload_n 0, 1) := by decide +kernel
theorem dX11_ways_17 : decode cX11_ways 17 = .ok (.invokevirtual 220, 3) := by decide +kernel
theorem dX11_ways_20 : decode cX11_ways 20 = .ok (.iload_n 1, 1) := by decide +kernel
theorem dX11_ways_21 : decode cX11_ways 21 = .ok (.iconst 1, 1) := by decide +kernel
theorem dX11_ways_22 : decode cX11_ways 22 = .ok (.if_icmp .ne 10, 3) := by decide +kernel
theorem dX11_ways_25 : decode cX11_ways 25 = .ok (.aload_n 0, 1) := by decide +kernel
theorem dX11_ways_26 : decode cX11_ways 26 = .ok (.getfield 214, 3) := by decide +kernel
theorem dX11_ways_29 : decode cX11_ways 29 = .ok (.goto 22, 3) := by decide +kernel
theorem dX11_ways_32 : decode cX11_ways 32 = .ok (.aload_n 0, 1) := by decide +kernel
theorem dX11_ways_33 : decode cX11_ways 33 = .ok (.getfield 214, 3) := by decide +kernel
theorem dX11_ways_36 : decode cX11_ways 36 = .ok (.sipush 20000, 3) := by decide +kernel
theorem dX11_ways_39 : decode cX11_ways 39 = .ok (.if_icmp .le 8, 3) := by decide +kernel
theorem dX11_ways_42 : decode cX11_ways 42 = .ok (.bipush (-9), 2) := by decide +kernel
theorem dX11_ways_44 : decode cX11_ways 44 = .ok (.goto 7, 3) := by decide +kernel
theorem dX11_ways_47 : decode cX11_ways 47 = .ok (.aload_n 0, 1) := by decide +kernel
theorem dX11_ways_48 : decode cX11_ways 48 = .ok (.getfield 211, 3) := by decide +kernel
theorem dX11_ways_51 : decode cX11_ways 51 = .ok (.ireturn, 1) := by decide +kernel
theorem dX11_first_0 : decode cX11_first 0 = .ok (.aload_n 0, 1) := by decide +kernel
theorem dX11_first_1 : decode cX11_first 1 = .ok (.iload_n 1, 1) := by decide +kernel
theorem dX11_first_2 : decode cX11_first 2 = .ok (.invokevirtual 144, 3) := by decide +kernel
theorem dX11_first_5 : decode cX11_first 5 = .ok (.ifCond .ne 9, 3) := by decide +kernel
theorem dX11_first_8 : decode cX11_first 8 = .ok (.aload_n 0, 1) := by decide +kernel
theorem dX11_first_9 : decode cX11_first 9 = .ok (.iconst (-1), 1) := by decide +kernel
theorem dX11_first_10 : decode cX11_first 10 = .ok (.invokevirtual 112, 3) := by decide +kernel
theorem dX11_first_13 : decode cX11_first 13 = .ok (.ireturn, 1) := by decide +kernel
theorem dX11_first_14 : decode cX11_first 14 = .ok (.iload_n 2, 1) := by decide +kernel
theorem dX11_first_15 : decode cX11_first 15 = .ok (.iconst 0, 1) := by decide +kernel
theorem dX11_first_16 : decode cX11_first 16 = .ok (.iconst 1, 1) := by decide +kernel
theorem dX11_first_17 : decode cX11_first 17 = .ok (.invokestatic 124, 3) := by decide +kernel
theorem dX11_first_20 : decode cX11_first 20 = .ok (.ifCond .ne 10, 3) := by decide +kernel
theorem dX11_first_23 : decode cX11_first 23 = .ok (.aload_n 0, 1) := by decide +kernel
theorem dX11_first_24 : decode cX11_first 24 = .ok (.bipush (-2), 2) := by decide +kernel
theorem dX11_first_26 : decode cX11_first 26 = .ok (.invokevirtual 112, 3) := by decide +kernel
theorem dX11_first_29 : decode cX11_first 29 = .ok (.ireturn, 1) := by decide +kernel
theorem dX11_first_30 : decode cX11_first 30 = .ok (.aload_n 0, 1) := by decide +kernel
theorem dX11_first_31 : decode cX11_first 31 = .ok (.invokevirtual 220, 3) := by decide +kernel
theorem dX11_first_34 : decode cX11_first 34 = .ok (.aload_n 0, 1) := by decide +kernel
theorem dX11_first_35 : decode cX11_first 35 = .ok (.getfield 217, 3) := by decide +kernel
theorem dX11_first_38 : decode cX11_first 38 = .ok (.ifCond .ne 8, 3) := by decide +kernel
theorem dX11_first_41 : decode cX11_first 41 = .ok (.bipush (-9), 2) := by decide +kernel
theorem dX11_first_43 : decode cX11_first 43 = .ok (.goto 22, 3) := by decide +kernel
theorem dX11_first_46 : decode cX11_first 46 = .ok (.iload_n 2, 1) := by decide +kernel
theorem dX11_first_47 : decode cX11_first 47 = .ok (.ifCond .ne 12, 3) := by decide +kernel
theorem dX11_first_50 : decode cX11_first 50 = .ok (.aload_n 0, 1) := by decide +kernel
theorem dX11_first_51 : decode cX11_first 51 = .ok (.getfield 64, 3) := by decide +kernel
theorem dX11_first_54 : decode cX11_first 54 = .ok (.iload_n 1, 1) := by decide +kernel
theorem dX11_first_55 : decode cX11_first 55 = .ok (.iaload, 1) := by decide +kernel
theorem dX11_first_56 : decode cX11_first 56 = .ok (.goto 9, 3) := by decide +kernel
theorem dX11_first_59 : decode cX11_first 59 = .ok (.aload_n 0, 1) := by decide +kernel
theorem dX11_first_60 : decode cX11_first 60 = .ok (.getfield 67, 3) := by decide +kernel
theorem dX11_first_63 : decode cX11_first 63 = .ok (.iload_n 1, 1) := by decide +kernel
theorem dX11_first_64 : decode cX11_first 64 = .ok (.iaload, 1) := by decide +kernel
theorem dX11_first_65 : decode cX11_first 65 = .ok (.ireturn, 1) := by decide +kernel
theorem dX11_findOrder_0 : decode cX11_findOrder 0 = .ok (.aload_n 0, 1) := by decide +kernel
theorem dX11_findOrder_1 : decode cX11_findOrder 1 = .ok (.iconst 0, 1) := by decide +kernel
theorem dX11_findOrder_2 : decode cX11_findOrder 2 = .ok (.putfield 223, 3) := by decide +kernel
theorem dX11_findOrder_5 : decode cX11_findOrder 5 = .ok (.iconst 0, 1) := by decide +kernel
theorem dX11_findOrder_6 : decode cX11_findOrder 6 = .ok (.istore_n 2, 1) := by decide +kernel
theorem dX11_findOrder_7 : decode cX11_findOrder 7 = .ok (.iload_n 2, 1) := by decide +kernel
theorem dX11_findOrder_8 : decode cX11_findOrder 8 = .ok (.iconst 2, 1) := by decide +kernel
theorem dX11_findOrder_9 : decode cX11_findOrder 9 = .ok (.if_icmp .ge 91, 3) := by decide +kernel
theorem dX11_findOrder_12 : decode cX11_findOrder 12 = .ok (.iconst 0, 1) := by decide +kernel
theorem dX11_findOrder_13 : decode cX11_findOrder 13 = .ok (.istore_n 3, 1) := by decide +kernel
theorem dX11_findOrder_14 : decode cX11_findOrder 14 = .ok (.iload_n 3, 1) := by decide +kernel
theorem dX11_findOrder_15 : decode cX11_findOrder 15 = .ok (.aload_n 0, 1) := by decide +kernel
theorem dX11_findOrder_16 : decode cX11_findOrder 16 = .ok (.invokevirtual 91, 3) := by decide +kernel
theorem dX11_findOrder_19 : decode cX11_findOrder 19 = .ok (.if_icmp .ge 75, 3) := by decide +kernel
theorem dX11_findOrder_22 : decode cX11_findOrder 22 = .ok (.iload_n 1, 1) := by decide +kernel
theorem dX11_findOrder_23 : decode cX11_findOrder 23 = .ok (.iconst 1, 1) := by decide +kernel
theorem dX11_findOrder_24 : decode cX11_findOrder 24 = .ok (.if_icmp .ne 11, 3) := by decide +kernel
theorem dX11_findOrder_27 : decode cX11_findOrder 27 = .ok (.aload_n 0, 1) := by decide +kernel
theorem dX11_findOrder_28 : decode cX11_findOrder 28 = .ok (.iload_n 3, 1) := by decide +kernel
theorem dX11_findOrder_29 : decode cX11_findOrder 29 = .ok (.invokevirtual 187, 3) := by decide +kernel
theorem dX11_findOrder_32 : decode cX11_findOrder 32 = .ok (.ifCond .eq 7, 3) := by decide +kernel
theorem dX11_findOrder_35 : decode cX11_findOrder 35 = .ok (.iconst 1, 1) := by decide +kernel
theorem dX11_findOrder_36 : decode cX11_findOrder 36 = .ok (.goto 4, 3) := by decide +kernel
theorem dX11_findOrder_39 : decode cX11_findOrder 39 = .ok (.iconst 0, 1) := by decide +kernel
theorem dX11_findOrder_40 : decode cX11_findOrder 40 = .ok (.istore 4, 2) := by decide +kernel
theorem dX11_findOrder_42 : decode cX11_findOrder 42 = .ok (.aload_n 0, 1) := by decide +kernel
theorem dX11_findOrder_43 : decode cX11_findOrder 43 = .ok (.getfield 22, 3) := by decide +kernel
theorem dX11_findOrder_46 : decode cX11_findOrder 46 = .ok (.iload_n 3, 1) := by decide +kernel
theorem dX11_findOrder_47 : decode cX11_findOrder 47 = .ok (.iaload, 1) := by decide +kernel
theorem dX11_findOrder_48 : decode cX11_findOrder 48 = .ok (.ifCond .ge 40, 3) := by decide +kernel
theorem dX11_findOrder_51 : decode cX11_findOrder 51 = .ok (.iload 4, 2) := by decide +kernel
theorem dX11_findOrder_53 : decode cX11_findOrder 53 = .ok (.iload_n 2, 1) := by decide +kernel
theorem dX11_findOrder_54 : decode cX11_findOrder 54 = .ok (.ifCond .ne 7, 3) := by decide +kernel
theorem dX11_findOrder_57 : decode cX11_findOrder 57 = .ok (.iconst 1, 1) := by decide +kernel
theorem dX11_findOrder_58 : decode cX11_findOrder 58 = .ok (.goto 4, 3) := by decide +kernel
theorem dX11_findOrder_61 : decode cX11_findOrder 61 = .ok (.iconst 0, 1) := by decide +kernel
theorem dX11_findOrder_62 : decode cX11_findOrder 62 = .ok (.if_icmp .eq 6, 3) := by decide +kernel
theorem dX11_findOrder_65 : decode cX11_findOrder 65 = .ok (.goto 23, 3) := by decide +kernel
theorem dX11_findOrder_68 : decode cX11_findOrder 68 = .ok (.aload_n 0, 1) := by decide +kernel
theorem dX11_findOrder_69 : decode cX11_findOrder 69 = .ok (.getfield 70, 3) := by decide +kernel
theorem dX11_findOrder_72 : decode cX11_findOrder 72 = .ok (.aload_n 0, 1) := by decide +kernel
theorem dX11_findOrder_73 : decode cX11_findOrder 73 = .ok (.getfield 223, 3) := by decide +kernel
theorem dX11_findOrder_76 : decode cX11_findOrder 76 = .ok (.iload_n 3, 1) := by decide +kernel
theorem dX11_findOrder_77 : decode cX11_findOrder 77 = .ok (.iastore, 1) := by decide +kernel
theorem dX11_findOrder_78 : decode cX11_findOrder 78 = .ok (.aload_n 0, 1) := by decide +kernel
theorem dX11_findOrder_79 : decode cX11_findOrder 79 = .ok (.dup, 1) := by decide +kernel
theorem dX11_findOrder_80 : decode cX11_findOrder 80 = .ok (.getfield 223, 3) := by decide +kernel
theorem dX11_findOrder_83 : decode cX11_findOrder 83 = .ok (.iconst 1, 1) := by decide +kernel
theorem dX11_findOrder_84 : decode cX11_findOrder 84 = .ok (.iadd, 1) := by decide +kernel
theorem dX11_findOrder_85 : decode cX11_findOrder 85 = .ok (.putfield 223, 3) := by decide +kernel
theorem dX11_findOrder_88 : decode cX11_findOrder 88 = .ok (.iinc 3 1, 3) := by decide +kernel
theorem dX11_findOrder_91 : decode cX11_findOrder 91 = .ok (.goto (-77), 3) := by decide +kernel
theorem dX11_findOrder_94 : decode cX11_findOrder 94 = .ok (.iinc 2 1, 3) := by decide +kernel
theorem dX11_findOrder_97 : decode cX11_findOrder 97 = .ok (.goto (-90), 3) := by decide +kernel
theorem dX11_findOrder_100 : decode cX11_findOrder 100 = .ok (.return_, 1) := by decide +kernel
theorem dX11_nubs_0 : decode cX11_nubs 0 = .ok (.iconst 0, 1) := by decide +kernel
theorem dX11_nubs_1 : decode cX11_nubs 1 = .ok (.istore_n 2, 1) := by decide +kernel
theorem dX11_nubs_2 : decode cX11_nubs 2 = .ok (.iconst 0, 1) := by decide +kernel
theorem dX11_nubs_3 : decode cX11_nubs 3 = .ok (.istore_n 3, 1) := by decide +kernel
theorem dX11_nubs_4 : decode cX11_nubs 4 = .ok (.iload_n 3, 1) := by decide +kernel
theorem dX11_nubs_5 : decode cX11_nubs 5 = .ok (.iconst 4, 1) := by decide +kernel
theorem dX11_nubs_6 : decode cX11_nubs 6 = .ok (.if_icmp .ge 26, 3) := by decide +kernel
theorem dX11_nubs_9 : decode cX11_nubs 9 = .ok (.iload_n 2, 1) := by decide +kernel
theorem dX11_nubs_10 : decode cX11_nubs 10 = .ok (.aload_n 0, 1) := by decide +kernel
theorem dX11_nubs_11 : decode cX11_nubs 11 = .ok (.iload_n 1, 1) := by decide +kernel
theorem dX11_nubs_12 : decode cX11_nubs 12 = .ok (.iload_n 3, 1) := by decide +kernel
theorem dX11_nubs_13 : decode cX11_nubs 13 = .ok (.invokevirtual 102, 3) := by decide +kernel
theorem dX11_nubs_16 : decode cX11_nubs 16 = .ok (.ifCond .le 7, 3) := by decide +kernel
theorem dX11_nubs_19 : decode cX11_nubs 19 = .ok (.iconst 1, 1) := by decide +kernel
theorem dX11_nubs_20 : decode cX11_nubs 20 = .ok (.goto 4, 3) := by decide +kernel
theorem dX11_nubs_23 : decode cX11_nubs 23 = .ok (.iconst 0, 1) := by decide +kernel
theorem dX11_nubs_24 : decode cX11_nubs 24 = .ok (.iadd, 1) := by decide +kernel
theorem dX11_nubs_25 : decode cX11_nubs 25 = .ok (.istore_n 2, 1) := by decide +kernel
theorem dX11_nubs_26 : decode cX11_nubs 26 = .ok (.iinc 3 1, 3) := by decide +kernel
theorem dX11_nubs_29 : decode cX11_nubs 29 = .ok (.goto (-25), 3) := by decide +kernel
theorem dX11_nubs_32 : decode cX11_nubs 32 = .ok (.iload_n 2, 1) := by decide +kernel
theorem dX11_nubs_33 : decode cX11_nubs 33 = .ok (.ireturn, 1) := by decide +kernel
theorem dX11_hasFlat_0 : decode cX11_hasFlat 0 = .ok (.iconst 0, 1) := by decide +kernel
theorem dX11_hasFlat_1 : decode cX11_hasFlat 1 = .ok (.istore_n 2, 1) := by decide +kernel
theorem dX11_hasFlat_2 : decode cX11_hasFlat 2 = .ok (.iload_n 2, 1) := by decide +kernel
theorem dX11_hasFlat_3 : decode cX11_hasFlat 3 = .ok (.iconst 4, 1) := by decide +kernel
theorem dX11_hasFlat_4 : decode cX11_hasFlat 4 = .ok (.if_icmp .ge 20, 3) := by decide +kernel
theorem dX11_hasFlat_7 : decode cX11_hasFlat 7 = .ok (.aload_n 0, 1) := by decide +kernel
theorem dX11_hasFlat_8 : decode cX11_hasFlat 8 = .ok (.iload_n 1, 1) := by decide +kernel
theorem dX11_hasFlat_9 : decode cX11_hasFlat 9 = .ok (.iload_n 2, 1) := by decide +kernel
theorem dX11_hasFlat_10 : decode cX11_hasFlat 10 = .ok (.invokevirtual 102, 3) := by decide +kernel
theorem dX11_hasFlat_13 : decode cX11_hasFlat 13 = .ok (.ifCond .ne 5, 3) := by decide +kernel
theorem dX11_hasFlat_16 : decode cX11_hasFlat 16 = .ok (.iconst 1, 1) := by decide +kernel
theorem dX11_hasFlat_17 : decode cX11_hasFlat 17 = .ok (.ireturn, 1) := by decide +kernel
theorem dX11_hasFlat_18 : decode cX11_hasFlat 18 = .ok (.iinc 2 1, 3) := by decide +kernel
theorem dX11_hasFlat_21 : decode cX11_hasFlat 21 = .ok (.goto (-19), 3) := by decide +kernel
theorem dX11_hasFlat_24 : decode cX11_hasFlat 24 = .ok (.iconst 0, 1) := by decide +kernel
theorem dX11_hasFlat_25 : decode cX11_hasFlat 25 = .ok (.ireturn, 1) := by decide +kernel
theorem dX11_isAsked_0 : decode cX11_isAsked 0 = .ok (.iload_n 1, 1) := by decide +kernel
theorem dX11_isAsked_1 : decode cX11_isAsked 1 = .ok (.tableswitch 72 0 2 #[27, 29, 51], 27) := by decide +kernel
theorem dX11_isAsked_28 : decode cX11_isAsked 28 = .ok (.iconst 1, 1) := by decide +kernel
theorem dX11_isAsked_29 : decode cX11_isAsked 29 = .ok (.ireturn, 1) := by decide +kernel
theorem dX11_isAsked_30 : decode cX11_isAsked 30 = .ok (.aload_n 0, 1) := by decide +kernel
theorem dX11_isAsked_31 : decode cX11_isAsked 31 = .ok (.iload_n 3, 1) := by decide +kernel
theorem dX11_isAsked_32 : decode cX11_isAsked 32 = .ok (.invokevirtual 187, 3) := by decide +kernel
theorem dX11_isAsked_35 : decode cX11_isAsked 35 = .ok (.ifCond .eq 11, 3) := by decide +kernel
theorem dX11_isAsked_38 : decode cX11_isAsked 38 = .ok (.aload_n 0, 1) := by decide +kernel
theorem dX11_isAsked_39 : decode cX11_isAsked 39 = .ok (.iload_n 2, 1) := by decide +kernel
theorem dX11_isAsked_40 : decode cX11_isAsked 40 = .ok (.invokevirtual 226, 3) := by decide +kernel
theorem dX11_isAsked_43 : decode cX11_isAsked 43 = .ok (.ifCond .eq 7, 3) := by decide +kernel
theorem dX11_isAsked_46 : decode cX11_isAsked 46 = .ok (.iconst 1, 1) := by decide +kernel
theorem dX11_isAsked_47 : decode cX11_isAsked 47 = .ok (.goto 4, 3) := by decide +kernel
theorem dX11_isAsked_50 : decode cX11_isAsked 50 = .ok (.iconst 0, 1) := by decide +kernel
theorem dX11_isAsked_51 : decode cX11_isAsked 51 = .ok (.ireturn, 1) := by decide +kernel
theorem dX11_isAsked_52 : decode cX11_isAsked 52 = .ok (.aload_n 0, 1) := by decide +kernel
theorem dX11_isAsked_53 : decode cX11_isAsked 53 = .ok (.getfield 19, 3) := by decide +kernel
theorem dX11_isAsked_56 : decode cX11_isAsked 56 = .ok (.iload_n 2, 1) := by decide +kernel
theorem dX11_isAsked_57 : decode cX11_isAsked 57 = .ok (.iaload, 1) := by decide +kernel
theorem dX11_isAsked_58 : decode cX11_isAsked 58 = .ok (.aload_n 0, 1) := by decide +kernel
theorem dX11_isAsked_59 : decode cX11_isAsked 59 = .ok (.getfield 19, 3) := by decide +kernel
theorem dX11_isAsked_62 : decode cX11_isAsked 62 = .ok (.iload_n 3, 1) := by decide +kernel
theorem dX11_isAsked_63 : decode cX11_isAsked 63 = .ok (.iaload, 1) := by decide +kernel
theorem dX11_isAsked_64 : decode cX11_isAsked 64 = .ok (.if_icmp .ne 7, 3) := by decide +kernel
theorem dX11_isAsked_67 : decode cX11_isAsked 67 = .ok (.iconst 1, 1) := by decide +kernel
theorem dX11_isAsked_68 : decode cX11_isAsked 68 = .ok (.goto 4, 3) := by decide +kernel
theorem dX11_isAsked_71 : decode cX11_isAsked 71 = .ok (.iconst 0, 1) := by decide +kernel
theorem dX11_isAsked_72 : decode cX11_isAsked 72 = .ok (.ireturn, 1) := by decide +kernel
theorem dX11_isAsked_73 : decode cX11_isAsked 73 = .ok (.aload_n 0, 1) := by decide +kernel
theorem dX11_isAsked_74 : decode cX11_isAsked 74 = .ok (.iload_n 2, 1) := by decide +kernel
theorem dX11_isAsked_75 : decode cX11_isAsked 75 = .ok (.invokevirtual 229, 3) := by decide +kernel
theorem dX11_isAsked_78 : decode cX11_isAsked 78 = .ok (.aload_n 0, 1) := by decide +kernel
theorem dX11_isAsked_79 : decode cX11_isAsked 79 = .ok (.iload_n 3, 1) := by decide +kernel
theorem dX11_isAsked_80 : decode cX11_isAsked 80 = .ok (.invokevirtual 229, 3) := by decide +kernel
theorem dX11_isAsked_83 : decode cX11_isAsked 83 = .ok (.if_icmp .ne 7, 3) := by decide +kernel
theorem dX11_isAsked_86 : decode cX11_isAsked 86 = .ok (.iconst 1, 1) := by decide +kernel
theorem dX11_isAsked_87 : decode cX11_isAsked 87 = .ok (.goto 4, 3) := by decide +kernel
theorem dX11_isAsked_90 : decode cX11_isAsked 90 = .ok (.iconst 0, 1) := by decide +kernel
theorem dX11_isAsked_91 : decode cX11_isAsked 91 = .ok (.ireturn, 1) := by decide +kernel
theorem dX11_sortsFor_0 : decode cX11_sortsFor 0 = .ok (.iconst 0, 1) := by decide +kernel
theorem dX11_sortsFor_1 : decode cX11_sortsFor 1 = .ok (.istore_n 2, 1) := by decide +kernel
theorem dX11_sortsFor_2 : decode cX11_sortsFor 2 = .ok (.iconst 0, 1) := by decide +kernel
theorem dX11_sortsFor_3 : decode cX11_sortsFor 3 = .ok (.istore_n 3, 1) := by decide +kernel
theorem dX11_sortsFor_4 : decode cX11_sortsFor 4 = .ok (.iload_n 3, 1) := by decide +kernel
theorem dX11_sortsFor_5 : decode cX11_sortsFor 5 = .ok (.aload_n 0, 1) := by decide +kernel
theorem dX11_sortsFor_6 : decode cX11_sortsFor 6 = .ok (.invokevirtual 91, 3) := by decide +kernel
theorem dX11_sortsFor_9 : decode cX11_sortsFor 9 = .ok (.if_icmp .ge 34, 3) := by decide +kernel
theorem dX11_sortsFor_12 : decode cX11_sortsFor 12 = .ok (.iload_n 2, 1) := by decide +kernel
theorem dX11_sortsFor_13 : decode cX11_sortsFor 13 = .ok (.aload_n 0, 1) := by decide +kernel
theorem dX11_sortsFor_14 : decode cX11_sortsFor 14 = .ok (.getfield 31, 3) := by decide +kernel
theorem dX11_sortsFor_17 : decode cX11_sortsFor 17 = .ok (.iload_n 3, 1) := by decide +kernel
theorem dX11_sortsFor_18 : decode cX11_sortsFor 18 = .ok (.iaload, 1) := by decide +kernel
theorem dX11_sortsFor_19 : decode cX11_sortsFor 19 = .ok (.ifCond .ne 15, 3) := by decide +kernel
theorem dX11_sortsFor_22 : decode cX11_sortsFor 22 = .ok (.aload_n 0, 1) := by decide +kernel
theorem dX11_sortsFor_23 : decode cX11_sortsFor 23 = .ok (.iload_n 3, 1) := by decide +kernel
theorem dX11_sortsFor_24 : decode cX11_sortsFor 24 = .ok (.invokevirtual 203, 3) := by decide +kernel
theorem dX11_sortsFor_27 : decode cX11_sortsFor 27 = .ok (.ifCond .ne 7, 3) := by decide +kernel
theorem dX11_sortsFor_30 : decode cX11_sortsFor 30 = .ok (.iconst 1, 1) := by decide +kernel
theorem dX11_sortsFor_31 : decode cX11_sortsFor 31 = .ok (.goto 4, 3) := by decide +kernel
theorem dX11_sortsFor_34 : decode cX11_sortsFor 34 = .ok (.iconst 0, 1) := by decide +kernel
theorem dX11_sortsFor_35 : decode cX11_sortsFor 35 = .ok (.iadd, 1) := by decide +kernel
theorem dX11_sortsFor_36 : decode cX11_sortsFor 36 = .ok (.istore_n 2, 1) := by decide +kernel
theorem dX11_sortsFor_37 : decode cX11_sortsFor 37 = .ok (.iinc 3 1, 3) := by decide +kernel
theorem dX11_sortsFor_40 : decode cX11_sortsFor 40 = .ok (.goto (-36), 3) := by decide +kernel
theorem dX11_sortsFor_43 : decode cX11_sortsFor 43 = .ok (.iload_n 1, 1) := by decide +kernel
theorem dX11_sortsFor_44 : decode cX11_sortsFor 44 = .ok (.iconst 2, 1) := by decide +kernel
theorem dX11_sortsFor_45 : decode cX11_sortsFor 45 = .ok (.if_icmp .ne 9, 3) := by decide +kernel
theorem dX11_sortsFor_48 : decode cX11_sortsFor 48 = .ok (.iconst 2, 1) := by decide +kernel
theorem dX11_sortsFor_49 : decode cX11_sortsFor 49 = .ok (.iload_n 2, 1) := by decide +kernel
theorem dX11_sortsFor_50 : decode cX11_sortsFor 50 = .ok (.imul, 1) := by decide +kernel
theorem dX11_sortsFor_51 : decode cX11_sortsFor 51 = .ok (.goto 15, 3) := by decide +kernel
theorem dX11_sortsFor_54 : decode cX11_sortsFor 54 = .ok (.iload_n 1, 1) := by decide +kernel
theorem dX11_sortsFor_55 : decode cX11_sortsFor 55 = .ok (.iconst 2, 1) := by decide +kernel
theorem dX11_sortsFor_56 : decode cX11_sortsFor 56 = .ok (.if_icmp .le 9, 3) := by decide +kernel
theorem dX11_sortsFor_59 : decode cX11_sortsFor 59 = .ok (.iconst 3, 1) := by decide +kernel
theorem dX11_sortsFor_60 : decode cX11_sortsFor 60 = .ok (.iload_n 2, 1) := by decide +kernel
theorem dX11_sortsFor_61 : decode cX11_sortsFor 61 = .ok (.imul, 1) := by decide +kernel
theorem dX11_sortsFor_62 : decode cX11_sortsFor 62 = .ok (.goto 4, 3) := by decide +kernel
theorem dX11_sortsFor_65 : decode cX11_sortsFor 65 = .ok (.iconst 0, 1) := by decide +kernel
theorem dX11_sortsFor_66 : decode cX11_sortsFor 66 = .ok (.ireturn, 1) := by decide +kernel
theorem dX11_formOf_0 : decode cX11_formOf 0 = .ok (.iconst 0, 1) := by decide +kernel
theorem dX11_formOf_1 : decode cX11_formOf 1 = .ok (.istore_n 3, 1) := by decide +kernel
theorem dX11_formOf_2 : decode cX11_formOf 2 = .ok (.iconst 0, 1) := by decide +kernel
theorem dX11_formOf_3 : decode cX11_formOf 3 = .ok (.istore 4, 2) := by decide +kernel
theorem dX11_formOf_5 : decode cX11_formOf 5 = .ok (.iload 4, 2) := by decide +kernel
theorem dX11_formOf_7 : decode cX11_formOf 7 = .ok (.iconst 4, 1) := by decide +kernel
theorem dX11_formOf_8 : decode cX11_formOf 8 = .ok (.if_icmp .ge 26, 3) := by decide +kernel
theorem dX11_formOf_11 : decode cX11_formOf 11 = .ok (.bipush 20, 2) := by decide +kernel
theorem dX11_formOf_13 : decode cX11_formOf 13 = .ok (.iload_n 3, 1) := by decide +kernel
theorem dX11_formOf_14 : decode cX11_formOf 14 = .ok (.imul, 1) := by decide +kernel
theorem dX11_formOf_15 : decode cX11_formOf 15 = .ok (.aload_n 0, 1) := by decide +kernel
theorem dX11_formOf_16 : decode cX11_formOf 16 = .ok (.iload_n 1, 1) := by decide +kernel
theorem dX11_formOf_17 : decode cX11_formOf 17 = .ok (.iload_n 2, 1) := by decide +kernel
theorem dX11_formOf_18 : decode cX11_formOf 18 = .ok (.iload 4, 2) := by decide +kernel
theorem dX11_formOf_20 : decode cX11_formOf 20 = .ok (.invokevirtual 175, 3) := by decide +kernel
theorem dX11_formOf_23 : decode cX11_formOf 23 = .ok (.iadd, 1) := by decide +kernel
theorem dX11_formOf_24 : decode cX11_formOf 24 = .ok (.bipush 9, 2) := by decide +kernel
theorem dX11_formOf_26 : decode cX11_formOf 26 = .ok (.iadd, 1) := by decide +kernel
theorem dX11_formOf_27 : decode cX11_formOf 27 = .ok (.istore_n 3, 1) := by decide +kernel
theorem dX11_formOf_28 : decode cX11_formOf 28 = .ok (.iinc 4 1, 3) := by decide +kernel
theorem dX11_formOf_31 : decode cX11_formOf 31 = .ok (.goto (-26), 3) := by decide +kernel
theorem dX11_formOf_34 : decode cX11_formOf 34 = .ok (.iload_n 3, 1) := by decide +kernel
theorem dX11_formOf_35 : decode cX11_formOf 35 = .ok (.ireturn, 1) := by decide +kernel
theorem dX11_hasFailed_0 : decode cX11_hasFailed 0 = .ok (.iconst 0, 1) := by decide +kernel
theorem dX11_hasFailed_1 : decode cX11_hasFailed 1 = .ok (.istore_n 2, 1) := by decide +kernel
theorem dX11_hasFailed_2 : decode cX11_hasFailed 2 = .ok (.iload_n 2, 1) := by decide +kernel
theorem dX11_hasFailed_3 : decode cX11_hasFailed 3 = .ok (.aload_n 0, 1) := by decide +kernel
theorem dX11_hasFailed_4 : decode cX11_hasFailed 4 = .ok (.getfield 232, 3) := by decide +kernel
theorem dX11_hasFailed_7 : decode cX11_hasFailed 7 = .ok (.if_icmp .ge 21, 3) := by decide +kernel
theorem dX11_hasFailed_10 : decode cX11_hasFailed 10 = .ok (.aload_n 0, 1) := by decide +kernel
theorem dX11_hasFailed_11 : decode cX11_hasFailed 11 = .ok (.getfield 73, 3) := by decide +kernel
theorem dX11_hasFailed_14 : decode cX11_hasFailed 14 = .ok (.iload_n 2, 1) := by decide +kernel
theorem dX11_hasFailed_15 : decode cX11_hasFailed 15 = .ok (.iaload, 1) := by decide +kernel
theorem dX11_hasFailed_16 : decode cX11_hasFailed 16 = .ok (.iload_n 1, 1) := by decide +kernel
theorem dX11_hasFailed_17 : decode cX11_hasFailed 17 = .ok (.if_icmp .ne 5, 3) := by decide +kernel
theorem dX11_hasFailed_20 : decode cX11_hasFailed 20 = .ok (.iconst 1, 1) := by decide +kernel
theorem dX11_hasFailed_21 : decode cX11_hasFailed 21 = .ok (.ireturn, 1) := by decide +kernel
theorem dX11_hasFailed_22 : decode cX11_hasFailed 22 = .ok (.iinc 2 1, 3) := by decide +kernel
theorem dX11_hasFailed_25 : decode cX11_hasFailed 25 = .ok (.goto (-23), 3) := by decide +kernel
theorem dX11_hasFailed_28 : decode cX11_hasFailed 28 = .ok (.iconst 0, 1) := by decide +kernel
theorem dX11_hasFailed_29 : decode cX11_hasFailed 29 = .ok (.ireturn, 1) := by decide +kernel
theorem dX11_goesThrough_0 : decode cX11_goesThrough 0 = .ok (.iconst 0, 1) := by decide +kernel
theorem dX11_goesThrough_1 : decode cX11_goesThrough 1 = .ok (.istore 4, 2) := by decide +kernel
theorem dX11_goesThrough_3 : decode cX11_goesThrough 3 = .ok (.aload_n 0, 1) := by decide +kernel
theorem dX11_goesThrough_4 : decode cX11_goesThrough 4 = .ok (.iconst 0, 1) := by decide +kernel
theorem dX11_goesThrough_5 : decode cX11_goesThrough 5 = .ok (.putfield 232, 3) := by decide +kernel
theorem dX11_goesThrough_8 : decode cX11_goesThrough 8 = .ok (.iconst 0, 1) := by decide +kernel
theorem dX11_goesThrough_9 : decode cX11_goesThrough 9 = .ok (.istore 5, 2) := by decide +kernel
theorem dX11_goesThrough_11 : decode cX11_goesThrough 11 = .ok (.iload 5, 2) := by decide +kernel
theorem dX11_goesThrough_13 : decode cX11_goesThrough 13 = .ok (.aload_n 0, 1) := by decide +kernel
theorem dX11_goesThrough_14 : decode cX11_goesThrough 14 = .ok (.invokevirtual 91, 3) := by decide +kernel
theorem dX11_goesThrough_17 : decode cX11_goesThrough 17 = .ok (.if_icmp .ge 165, 3) := by decide +kernel
theorem dX11_goesThrough_20 : decode cX11_goesThrough 20 = .ok (.aload_n 0, 1) := by decide +kernel
theorem dX11_goesThrough_21 : decode cX11_goesThrough 21 = .ok (.getfield 31, 3) := by decide +kernel
theorem dX11_goesThrough_24 : decode cX11_goesThrough 24 = .ok (.iload 5, 2) := by decide +kernel
theorem dX11_goesThrough_26 : decode cX11_goesThrough 26 = .ok (.iaload, 1) := by decide +kernel
theorem dX11_goesThrough_27 : decode cX11_goesThrough 27 = .ok (.iconst 1, 1) := by decide +kernel
theorem dX11_goesThrough_28 : decode cX11_goesThrough 28 = .ok (.if_icmp .eq 148, 3) := by decide +kernel
theorem dX11_goesThrough_31 : decode cX11_goesThrough 31 = .ok (.aload_n 0, 1) := by decide +kernel
theorem dX11_goesThrough_32 : decode cX11_goesThrough 32 = .ok (.iload 5, 2) := by decide +kernel
theorem dX11_goesThrough_34 : decode cX11_goesThrough 34 = .ok (.invokevirtual 203, 3) := by decide +kernel
theorem dX11_goesThrough_37 : decode cX11_goesThrough 37 = .ok (.ifCond .ne 139, 3) := by decide +kernel
theorem dX11_goesThrough_40 : decode cX11_goesThrough 40 = .ok (.aload_n 0, 1) := by decide +kernel
theorem dX11_goesThrough_41 : decode cX11_goesThrough 41 = .ok (.iload_n 1, 1) := by decide +kernel
theorem dX11_goesThrough_42 : decode cX11_goesThrough 42 = .ok (.iload 5, 2) := by decide +kernel
theorem dX11_goesThrough_44 : decode cX11_goesThrough 44 = .ok (.iload_n 3, 1) := by decide +kernel
theorem dX11_goesThrough_45 : decode cX11_goesThrough 45 = .ok (.invokevirtual 235, 3) := by decide +kernel
theorem dX11_goesThrough_48 : decode cX11_goesThrough 48 = .ok (.ifCond .ne 6, 3) := by decide +kernel
theorem dX11_goesThrough_51 : decode cX11_goesThrough 51 = .ok (.goto 125, 3) := by decide +kernel
theorem dX11_goesThrough_54 : decode cX11_goesThrough 54 = .ok (.iconst 0, 1) := by decide +kernel
theorem dX11_goesThrough_55 : decode cX11_goesThrough 55 = .ok (.istore 6, 2) := by decide +kernel
theorem dX11_goesThrough_57 : decode cX11_goesThrough 57 = .ok (.iload 6, 2) := by decide +kernel
theorem dX11_goesThrough_59 : decode cX11_goesThrough 59 = .ok (.iconst 4, 1) := by decide +kernel
theorem dX11_goesThrough_60 : decode cX11_goesThrough 60 = .ok (.if_icmp .ge 116, 3) := by decide +kernel
theorem dX11_goesThrough_63 : decode cX11_goesThrough 63 = .ok (.iload_n 1, 1) := by decide +kernel
theorem dX11_goesThrough_64 : decode cX11_goesThrough 64 = .ok (.iconst 4, 1) := by decide +kernel
theorem dX11_goesThrough_65 : decode cX11_goesThrough 65 = .ok (.if_icmp .ne 21, 3) := by decide +kernel
theorem dX11_goesThrough_68 : decode cX11_goesThrough 68 = .ok (.aload_n 0, 1) := by decide +kernel
theorem dX11_goesThrough_69 : decode cX11_goesThrough 69 = .ok (.aload_n 0, 1) := by decide +kernel
theorem dX11_goesThrough_70 : decode cX11_goesThrough 70 = .ok (.iload 5, 2) := by decide +kernel
theorem dX11_goesThrough_72 : decode cX11_goesThrough 72 = .ok (.iload 6, 2) := by decide +kernel
theorem dX11_goesThrough_74 : decode cX11_goesThrough 74 = .ok (.invokevirtual 238, 3) := by decide +kernel
theorem dX11_goesThrough_77 : decode cX11_goesThrough 77 = .ok (.invokevirtual 241, 3) := by decide +kernel
theorem dX11_goesThrough_80 : decode cX11_goesThrough 80 = .ok (.ifCond .eq 6, 3) := by decide +kernel
theorem dX11_goesThrough_83 : decode cX11_goesThrough 83 = .ok (.goto 87, 3) := by decide +kernel
theorem dX11_goesThrough_86 : decode cX11_goesThrough 86 = .ok (.iload 4, 2) := by decide +kernel
theorem dX11_goesThrough_88 : decode cX11_goesThrough 88 = .ok (.aload_n 0, 1) := by decide +kernel
theorem dX11_goesThrough_89 : decode cX11_goesThrough 89 = .ok (.iload_n 2, 1) := by decide +kernel
theorem dX11_goesThrough_90 : decode cX11_goesThrough 90 = .ok (.iload 5, 2) := by decide +kernel
theorem dX11_goesThrough_92 : decode cX11_goesThrough 92 = .ok (.iload 6, 2) := by decide +kernel
theorem dX11_goesThrough_94 : decode cX11_goesThrough 94 = .ok (.iload_n 3, 1) := by decide +kernel
theorem dX11_goesThrough_95 : decode cX11_goesThrough 95 = .ok (.invokevirtual 199, 3) := by decide +kernel
theorem dX11_goesThrough_98 : decode cX11_goesThrough 98 = .ok (.iadd, 1) := by decide +kernel
theorem dX11_goesThrough_99 : decode cX11_goesThrough 99 = .ok (.istore 4, 2) := by decide +kernel
theorem dX11_goesThrough_101 : decode cX11_goesThrough 101 = .ok (.iload 5, 2) := by decide +kernel
theorem dX11_goesThrough_103 : decode cX11_goesThrough 103 = .ok (.iload_n 3, 1) := by decide +kernel
theorem dX11_goesThrough_104 : decode cX11_goesThrough 104 = .ok (.if_icmp .ne 26, 3) := by decide +kernel
theorem dX11_goesThrough_107 : decode cX11_goesThrough 107 = .ok (.iload 6, 2) := by decide +kernel
theorem dX11_goesThrough_109 : decode cX11_goesThrough 109 = .ok (.ifCond .ne 21, 3) := by decide +kernel
theorem dX11_goesThrough_112 : decode cX11_goesThrough 112 = .ok (.aload_n 0, 1) := by decide +kernel
theorem dX11_goesThrough_113 : decode cX11_goesThrough 113 = .ok (.getfield 22, 3) := by decide +kernel
theorem dX11_goesThrough_116 : decode cX11_goesThrough 116 = .ok (.iload_n 3, 1) := by decide +kernel
theorem dX11_goesThrough_117 : decode cX11_goesThrough 117 = .ok (.iload 5, 2) := by decide +kernel
theorem dX11_goesThrough_119 : decode cX11_goesThrough 119 = .ok (.iastore, 1) := by decide +kernel
theorem dX11_goesThrough_120 : decode cX11_goesThrough 120 = .ok (.aload_n 0, 1) := by decide +kernel
theorem dX11_goesThrough_121 : decode cX11_goesThrough 121 = .ok (.getfield 25, 3) := by decide +kernel
theorem dX11_goesThrough_124 : decode cX11_goesThrough 124 = .ok (.iload_n 3, 1) := by decide +kernel
theorem dX11_goesThrough_125 : decode cX11_goesThrough 125 = .ok (.iconst 0, 1) := by decide +kernel
theorem dX11_goesThrough_126 : decode cX11_goesThrough 126 = .ok (.iastore, 1) := by decide +kernel
theorem dX11_goesThrough_127 : decode cX11_goesThrough 127 = .ok (.iload 4, 2) := by decide +kernel
theorem dX11_goesThrough_129 : decode cX11_goesThrough 129 = .ok (.ireturn, 1) := by decide +kernel
theorem dX11_goesThrough_130 : decode cX11_goesThrough 130 = .ok (.aload_n 0, 1) := by decide +kernel
theorem dX11_goesThrough_131 : decode cX11_goesThrough 131 = .ok (.iload 5, 2) := by decide +kernel
theorem dX11_goesThrough_133 : decode cX11_goesThrough 133 = .ok (.iload 6, 2) := by decide +kernel
theorem dX11_goesThrough_135 : decode cX11_goesThrough 135 = .ok (.iload_n 3, 1) := by decide +kernel
theorem dX11_goesThrough_136 : decode cX11_goesThrough 136 = .ok (.invokevirtual 190, 3) := by decide +kernel
theorem dX11_goesThrough_139 : decode cX11_goesThrough 139 = .ok (.iconst 2, 1) := by decide +kernel
theorem dX11_goesThrough_140 : decode cX11_goesThrough 140 = .ok (.if_icmp .le 30, 3) := by decide +kernel
theorem dX11_goesThrough_143 : decode cX11_goesThrough 143 = .ok (.aload_n 0, 1) := by decide +kernel
theorem dX11_goesThrough_144 : decode cX11_goesThrough 144 = .ok (.getfield 73, 3) := by decide +kernel
theorem dX11_goesThrough_147 : decode cX11_goesThrough 147 = .ok (.aload_n 0, 1) := by decide +kernel
theorem dX11_goesThrough_148 : decode cX11_goesThrough 148 = .ok (.getfield 232, 3) := by decide +kernel
theorem dX11_goesThrough_151 : decode cX11_goesThrough 151 = .ok (.aload_n 0, 1) := by decide +kernel
theorem dX11_goesThrough_152 : decode cX11_goesThrough 152 = .ok (.iload 5, 2) := by decide +kernel
theorem dX11_goesThrough_154 : decode cX11_goesThrough 154 = .ok (.iload 6, 2) := by decide +kernel
theorem dX11_goesThrough_156 : decode cX11_goesThrough 156 = .ok (.invokevirtual 238, 3) := by decide +kernel
theorem dX11_goesThrough_159 : decode cX11_goesThrough 159 = .ok (.iastore, 1) := by decide +kernel
theorem dX11_goesThrough_160 : decode cX11_goesThrough 160 = .ok (.aload_n 0, 1) := by decide +kernel
theorem dX11_goesThrough_161 : decode cX11_goesThrough 161 = .ok (.dup, 1) := by decide +kernel
theorem dX11_goesThrough_162 : decode cX11_goesThrough 162 = .ok (.getfield 232, 3) := by decide +kernel
theorem dX11_goesThrough_165 : decode cX11_goesThrough 165 = .ok (.iconst 1, 1) := by decide +kernel
theorem dX11_goesThrough_166 : decode cX11_goesThrough 166 = .ok (.iadd, 1) := by decide +kernel
theorem dX11_goesThrough_167 : decode cX11_goesThrough 167 = .ok (.putfield 232, 3) := by decide +kernel
theorem dX11_goesThrough_170 : decode cX11_goesThrough 170 = .ok (.iinc 6 1, 3) := by decide +kernel
theorem dX11_goesThrough_173 : decode cX11_goesThrough 173 = .ok (.goto (-116), 3) := by decide +kernel
theorem dX11_goesThrough_176 : decode cX11_goesThrough 176 = .ok (.iinc 5 1, 3) := by decide +kernel
theorem dX11_goesThrough_179 : decode cX11_goesThrough 179 = .ok (.goto (-168), 3) := by decide +kernel
theorem dX11_goesThrough_182 : decode cX11_goesThrough 182 = .ok (.iload 4, 2) := by decide +kernel
theorem dX11_goesThrough_184 : decode cX11_goesThrough 184 = .ok (.ireturn, 1) := by decide +kernel
theorem dX11_doneBy_0 : decode cX11_doneBy 0 = .ok (.aload_n 0, 1) := by decide +kernel
theorem dX11_doneBy_1 : decode cX11_doneBy 1 = .ok (.iload_n 1, 1) := by decide +kernel
theorem dX11_doneBy_2 : decode cX11_doneBy 2 = .ok (.invokevirtual 244, 3) := by decide +kernel
theorem dX11_doneBy_5 : decode cX11_doneBy 5 = .ok (.aload_n 0, 1) := by decide +kernel
theorem dX11_doneBy_6 : decode cX11_doneBy 6 = .ok (.iconst 1, 1) := by decide +kernel
theorem dX11_doneBy_7 : decode cX11_doneBy 7 = .ok (.iconst 1, 1) := by decide +kernel
theorem dX11_doneBy_8 : decode cX11_doneBy 8 = .ok (.invokevirtual 151, 3) := by decide +kernel
theorem dX11_doneBy_11 : decode cX11_doneBy 11 = .ok (.iconst 0, 1) := by decide +kernel
theorem dX11_doneBy_12 : decode cX11_doneBy 12 = .ok (.istore 6, 2) := by decide +kernel
theorem dX11_doneBy_14 : decode cX11_doneBy 14 = .ok (.iconst 0, 1) := by decide +kernel
theorem dX11_doneBy_15 : decode cX11_doneBy 15 = .ok (.istore 7, 2) := by decide +kernel
theorem dX11_doneBy_17 : decode cX11_doneBy 17 = .ok (.iload 7, 2) := by decide +kernel
theorem dX11_doneBy_19 : decode cX11_doneBy 19 = .ok (.iload_n 3, 1) := by decide +kernel
theorem dX11_doneBy_20 : decode cX11_doneBy 20 = .ok (.if_icmp .ge 46, 3) := by decide +kernel
theorem dX11_doneBy_23 : decode cX11_doneBy 23 = .ok (.iload 7, 2) := by decide +kernel
theorem dX11_doneBy_25 : decode cX11_doneBy 25 = .ok (.aload_n 0, 1) := by decide +kernel
theorem dX11_doneBy_26 : decode cX11_doneBy 26 = .ok (.getfield 223, 3) := by decide +kernel
theorem dX11_doneBy_29 : decode cX11_doneBy 29 = .ok (.if_icmp .ge 37, 3) := by decide +kernel
theorem dX11_doneBy_32 : decode cX11_doneBy 32 = .ok (.iload 7, 2) := by decide +kernel
theorem dX11_doneBy_34 : decode cX11_doneBy 34 = .ok (.iload 4, 2) := by decide +kernel
theorem dX11_doneBy_36 : decode cX11_doneBy 36 = .ok (.irem, 1) := by decide +kernel
theorem dX11_doneBy_37 : decode cX11_doneBy 37 = .ok (.iload 5, 2) := by decide +kernel
theorem dX11_doneBy_39 : decode cX11_doneBy 39 = .ok (.if_icmp .ne 21, 3) := by decide +kernel
theorem dX11_doneBy_42 : decode cX11_doneBy 42 = .ok (.iload 6, 2) := by decide +kernel
theorem dX11_doneBy_44 : decode cX11_doneBy 44 = .ok (.aload_n 0, 1) := by decide +kernel
theorem dX11_doneBy_45 : decode cX11_doneBy 45 = .ok (.iload_n 1, 1) := by decide +kernel
theorem dX11_doneBy_46 : decode cX11_doneBy 46 = .ok (.iload_n 2, 1) := by decide +kernel
theorem dX11_doneBy_47 : decode cX11_doneBy 47 = .ok (.aload_n 0, 1) := by decide +kernel
theorem dX11_doneBy_48 : decode cX11_doneBy 48 = .ok (.getfield 70, 3) := by decide +kernel
theorem dX11_doneBy_51 : decode cX11_doneBy 51 = .ok (.iload 7, 2) := by decide +kernel
theorem dX11_doneBy_53 : decode cX11_doneBy 53 = .ok (.iaload, 1) := by decide +kernel
theorem dX11_doneBy_54 : decode cX11_doneBy 54 = .ok (.invokevirtual 248, 3) := by decide +kernel
theorem dX11_doneBy_57 : decode cX11_doneBy 57 = .ok (.iadd, 1) := by decide +kernel
theorem dX11_doneBy_58 : decode cX11_doneBy 58 = .ok (.istore 6, 2) := by decide +kernel
theorem dX11_doneBy_60 : decode cX11_doneBy 60 = .ok (.iinc 7 1, 3) := by decide +kernel
theorem dX11_doneBy_63 : decode cX11_doneBy 63 = .ok (.goto (-46), 3) := by decide +kernel
theorem dX11_doneBy_66 : decode cX11_doneBy 66 = .ok (.aload_n 0, 1) := by decide +kernel
theorem dX11_doneBy_67 : decode cX11_doneBy 67 = .ok (.iconst 1, 1) := by decide +kernel
theorem dX11_doneBy_68 : decode cX11_doneBy 68 = .ok (.iconst 0, 1) := by decide +kernel
theorem dX11_doneBy_69 : decode cX11_doneBy 69 = .ok (.invokevirtual 151, 3) := by decide +kernel
theorem dX11_doneBy_72 : decode cX11_doneBy 72 = .ok (.iload 6, 2) := by decide +kernel
theorem dX11_doneBy_74 : decode cX11_doneBy 74 = .ok (.ireturn, 1) := by decide +kernel
theorem dX11_doneOf_0 : decode cX11_doneOf 0 = .ok (.aload_n 0, 1) := by decide +kernel
theorem dX11_doneOf_1 : decode cX11_doneOf 1 = .ok (.iload_n 1, 1) := by decide +kernel
theorem dX11_doneOf_2 : decode cX11_doneOf 2 = .ok (.invokevirtual 251, 3) := by decide +kernel
theorem dX11_doneOf_5 : decode cX11_doneOf 5 = .ok (.aload_n 0, 1) := by decide +kernel
theorem dX11_doneOf_6 : decode cX11_doneOf 6 = .ok (.iload_n 1, 1) := by decide +kernel
theorem dX11_doneOf_7 : decode cX11_doneOf 7 = .ok (.iload_n 2, 1) := by decide +kernel
theorem dX11_doneOf_8 : decode cX11_doneOf 8 = .ok (.bipush 16, 2) := by decide +kernel
theorem dX11_doneOf_10 : decode cX11_doneOf 10 = .ok (.iconst 1, 1) := by decide +kernel
theorem dX11_doneOf_11 : decode cX11_doneOf 11 = .ok (.iconst 0, 1) := by decide +kernel
theorem dX11_doneOf_12 : decode cX11_doneOf 12 = .ok (.invokevirtual 254, 3) := by decide +kernel
theorem dX11_doneOf_15 : decode cX11_doneOf 15 = .ok (.iadd, 1) := by decide +kernel
theorem dX11_doneOf_16 : decode cX11_doneOf 16 = .ok (.ireturn, 1) := by decide +kernel
theorem dX11_done_0 : decode cX11_done 0 = .ok (.iload_n 1, 1) := by decide +kernel
theorem dX11_done_1 : decode cX11_done 1 = .ok (.iconst 0, 1) := by decide +kernel
theorem dX11_done_2 : decode cX11_done 2 = .ok (.iconst 4, 1) := by decide +kernel
theorem dX11_done_3 : decode cX11_done 3 = .ok (.invokestatic 124, 3) := by decide +kernel
theorem dX11_done_6 : decode cX11_done 6 = .ok (.ifCond .ne 10, 3) := by decide +kernel
theorem dX11_done_9 : decode cX11_done 9 = .ok (.aload_n 0, 1) := by decide +kernel
theorem dX11_done_10 : decode cX11_done 10 = .ok (.bipush (-2), 2) := by decide +kernel
theorem dX11_done_12 : decode cX11_done 12 = .ok (.invokevirtual 112, 3) := by decide +kernel
theorem dX11_done_15 : decode cX11_done 15 = .ok (.ireturn, 1) := by decide +kernel
theorem dX11_done_16 : decode cX11_done 16 = .ok (.aload_n 0, 1) := by decide +kernel
theorem dX11_done_17 : decode cX11_done 17 = .ok (.iload_n 2, 1) := by decide +kernel
theorem dX11_done_18 : decode cX11_done 18 = .ok (.invokevirtual 196, 3) := by decide +kernel
theorem dX11_done_21 : decode cX11_done 21 = .ok (.ifCond .eq 12, 3) := by decide +kernel
theorem dX11_done_24 : decode cX11_done 24 = .ok (.aload_n 0, 1) := by decide +kernel
theorem dX11_done_25 : decode cX11_done 25 = .ok (.iload_n 1, 1) := by decide +kernel
theorem dX11_done_26 : decode cX11_done 26 = .ok (.iload_n 2, 1) := by decide +kernel
theorem dX11_done_27 : decode cX11_done 27 = .ok (.invokevirtual 258, 3) := by decide +kernel
theorem dX11_done_30 : decode cX11_done 30 = .ok (.goto 8, 3) := by decide +kernel
theorem dX11_done_33 : decode cX11_done 33 = .ok (.aload_n 0, 1) := by decide +kernel
theorem dX11_done_34 : decode cX11_done 34 = .ok (.iconst (-1), 1) := by decide +kernel
theorem dX11_done_35 : decode cX11_done 35 = .ok (.invokevirtual 112, 3) := by decide +kernel
theorem dX11_done_38 : decode cX11_done 38 = .ok (.ireturn, 1) := by decide +kernel
theorem dX11_half_0 : decode cX11_half 0 = .ok (.iload_n 1, 1) := by decide +kernel
theorem dX11_half_1 : decode cX11_half 1 = .ok (.iconst 0, 1) := by decide +kernel
theorem dX11_half_2 : decode cX11_half 2 = .ok (.iconst 4, 1) := by decide +kernel
theorem dX11_half_3 : decode cX11_half 3 = .ok (.invokestatic 124, 3) := by decide +kernel
theorem dX11_half_6 : decode cX11_half 6 = .ok (.ifCond .ne 10, 3) := by decide +kernel
theorem dX11_half_9 : decode cX11_half 9 = .ok (.aload_n 0, 1) := by decide +kernel
theorem dX11_half_10 : decode cX11_half 10 = .ok (.bipush (-2), 2) := by decide +kernel
theorem dX11_half_12 : decode cX11_half 12 = .ok (.invokevirtual 112, 3) := by decide +kernel
theorem dX11_half_15 : decode cX11_half 15 = .ok (.ireturn, 1) := by decide +kernel
theorem dX11_half_16 : decode cX11_half 16 = .ok (.aload_n 0, 1) := by decide +kernel
theorem dX11_half_17 : decode cX11_half 17 = .ok (.iload_n 2, 1) := by decide +kernel
theorem dX11_half_18 : decode cX11_half 18 = .ok (.invokevirtual 196, 3) := by decide +kernel
theorem dX11_half_21 : decode cX11_half 21 = .ok (.ifCond .ne 9, 3) := by decide +kernel
theorem dX11_half_24 : decode cX11_half 24 = .ok (.aload_n 0, 1) := by decide +kernel
theorem dX11_half_25 : decode cX11_half 25 = .ok (.iconst (-1), 1) := by decide +kernel
theorem dX11_half_26 : decode cX11_half 26 = .ok (.invokevirtual 112, 3) := by decide +kernel
theorem dX11_half_29 : decode cX11_half 29 = .ok (.ireturn, 1) := by decide +kernel
theorem dX11_half_30 : decode cX11_half 30 = .ok (.aload_n 0, 1) := by decide +kernel
theorem dX11_half_31 : decode cX11_half 31 = .ok (.iload_n 1, 1) := by decide +kernel
theorem dX11_half_32 : decode cX11_half 32 = .ok (.invokevirtual 244, 3) := by decide +kernel
theorem dX11_half_35 : decode cX11_half 35 = .ok (.aload_n 0, 1) := by decide +kernel
theorem dX11_half_36 : decode cX11_half 36 = .ok (.getfield 223, 3) := by decide +kernel
theorem dX11_half_39 : decode cX11_half 39 = .ok (.ifCond .ne 5, 3) := by decide +kernel
theorem dX11_half_42 : decode cX11_half 42 = .ok (.iconst 0, 1) := by decide +kernel
theorem dX11_half_43 : decode cX11_half 43 = .ok (.ireturn, 1) := by decide +kernel
theorem dX11_half_44 : decode cX11_half 44 = .ok (.aload_n 0, 1) := by decide +kernel
theorem dX11_half_45 : decode cX11_half 45 = .ok (.iload_n 1, 1) := by decide +kernel
theorem dX11_half_46 : decode cX11_half 46 = .ok (.invokevirtual 251, 3) := by decide +kernel
theorem dX11_half_49 : decode cX11_half 49 = .ok (.aload_n 0, 1) := by decide +kernel
theorem dX11_half_50 : decode cX11_half 50 = .ok (.iload_n 1, 1) := by decide +kernel
theorem dX11_half_51 : decode cX11_half 51 = .ok (.iload_n 2, 1) := by decide +kernel
theorem dX11_half_52 : decode cX11_half 52 = .ok (.aload_n 0, 1) := by decide +kernel
theorem dX11_half_53 : decode cX11_half 53 = .ok (.getfield 223, 3) := by decide +kernel
theorem dX11_half_56 : decode cX11_half 56 = .ok (.iconst 2, 1) := by decide +kernel
theorem dX11_half_57 : decode cX11_half 57 = .ok (.if_icmp .ge 7, 3) := by decide +kernel
theorem dX11_half_60 : decode cX11_half 60 = .ok (.iconst 1, 1) := by decide +kernel
theorem dX11_half_61 : decode cX11_half 61 = .ok (.goto 9, 3) := by decide +kernel
theorem dX11_half_64 : decode cX11_half 64 = .ok (.aload_n 0, 1) := by decide +kernel
theorem dX11_half_65 : decode cX11_half 65 = .ok (.getfield 223, 3) := by decide +kernel
theorem dX11_half_68 : decode cX11_half 68 = .ok (.iconst 2, 1) := by decide +kernel
theorem dX11_half_69 : decode cX11_half 69 = .ok (.idiv, 1) := by decide +kernel
theorem dX11_half_70 : decode cX11_half 70 = .ok (.iconst 1, 1) := by decide +kernel
theorem dX11_half_71 : decode cX11_half 71 = .ok (.iconst 0, 1) := by decide +kernel
theorem dX11_half_72 : decode cX11_half 72 = .ok (.invokevirtual 254, 3) := by decide +kernel
theorem dX11_half_75 : decode cX11_half 75 = .ok (.iadd, 1) := by decide +kernel
theorem dX11_half_76 : decode cX11_half 76 = .ok (.ireturn, 1) := by decide +kernel
theorem dX11_bestRule_0 : decode cX11_bestRule 0 = .ok (.aload_n 0, 1) := by decide +kernel
theorem dX11_bestRule_1 : decode cX11_bestRule 1 = .ok (.iload_n 1, 1) := by decide +kernel
theorem dX11_bestRule_2 : decode cX11_bestRule 2 = .ok (.invokevirtual 196, 3) := by decide +kernel
theorem dX11_bestRule_5 : decode cX11_bestRule 5 = .ok (.ifCond .ne 9, 3) := by decide +kernel
theorem dX11_bestRule_8 : decode cX11_bestRule 8 = .ok (.aload_n 0, 1) := by decide +kernel
theorem dX11_bestRule_9 : decode cX11_bestRule 9 = .ok (.iconst (-1), 1) := by decide +kernel
theorem dX11_bestRule_10 : decode cX11_bestRule 10 = .ok (.invokevirtual 112, 3) := by decide +kernel
theorem dX11_bestRule_13 : decode cX11_bestRule 13 = .ok (.ireturn, 1) := by decide +kernel
theorem dX11_bestRule_14 : decode cX11_bestRule 14 = .ok (.iconst 0, 1) := by decide +kernel
theorem dX11_bestRule_15 : decode cX11_bestRule 15 = .ok (.istore_n 2, 1) := by decide +kernel
theorem dX11_bestRule_16 : decode cX11_bestRule 16 = .ok (.iconst 1, 1) := by decide +kernel
theorem dX11_bestRule_17 : decode cX11_bestRule 17 = .ok (.istore_n 3, 1) := by decide +kernel
theorem dX11_bestRule_18 : decode cX11_bestRule 18 = .ok (.iload_n 3, 1) := by decide +kernel
theorem dX11_bestRule_19 : decode cX11_bestRule 19 = .ok (.iconst 5, 1) := by decide +kernel
theorem dX11_bestRule_20 : decode cX11_bestRule 20 = .ok (.if_icmp .ge 30, 3) := by decide +kernel
theorem dX11_bestRule_23 : decode cX11_bestRule 23 = .ok (.aload_n 0, 1) := by decide +kernel
theorem dX11_bestRule_24 : decode cX11_bestRule 24 = .ok (.iload_n 3, 1) := by decide +kernel
theorem dX11_bestRule_25 : decode cX11_bestRule 25 = .ok (.iload_n 1, 1) := by decide +kernel
theorem dX11_bestRule_26 : decode cX11_bestRule 26 = .ok (.invokevirtual 258, 3) := by decide +kernel
theorem dX11_bestRule_29 : decode cX11_bestRule 29 = .ok (.aload_n 0, 1) := by decide +kernel
theorem dX11_bestRule_30 : decode cX11_bestRule 30 = .ok (.iload_n 2, 1) := by decide +kernel
theorem dX11_bestRule_31 : decode cX11_bestRule 31 = .ok (.iload_n 1, 1) := by decide +kernel
theorem dX11_bestRule_32 : decode cX11_bestRule 32 = .ok (.invokevirtual 258, 3) := by decide +kernel
theorem dX11_bestRule_35 : decode cX11_bestRule 35 = .ok (.if_icmp .ge 7, 3) := by decide +kernel
theorem dX11_bestRule_38 : decode cX11_bestRule 38 = .ok (.iload_n 3, 1) := by decide +kernel
theorem dX11_bestRule_39 : decode cX11_bestRule 39 = .ok (.goto 4, 3) := by decide +kernel
theorem dX11_bestRule_42 : decode cX11_bestRule 42 = .ok (.iload_n 2, 1) := by decide +kernel
theorem dX11_bestRule_43 : decode cX11_bestRule 43 = .ok (.istore_n 2, 1) := by decide +kernel
theorem dX11_bestRule_44 : decode cX11_bestRule 44 = .ok (.iinc 3 1, 3) := by decide +kernel
theorem dX11_bestRule_47 : decode cX11_bestRule 47 = .ok (.goto (-29), 3) := by decide +kernel
theorem dX11_bestRule_50 : decode cX11_bestRule 50 = .ok (.iload_n 2, 1) := by decide +kernel
theorem dX11_bestRule_51 : decode cX11_bestRule 51 = .ok (.ireturn, 1) := by decide +kernel
theorem dX11_tableOf_0 : decode cX11_tableOf 0 = .ok (.iconst 0, 1) := by decide +kernel
theorem dX11_tableOf_1 : decode cX11_tableOf 1 = .ok (.istore_n 3, 1) := by decide +kernel
theorem dX11_tableOf_2 : decode cX11_tableOf 2 = .ok (.iconst 0, 1) := by decide +kernel
theorem dX11_tableOf_3 : decode cX11_tableOf 3 = .ok (.istore 4, 2) := by decide +kernel
theorem dX11_tableOf_5 : decode cX11_tableOf 5 = .ok (.iload 4, 2) := by decide +kernel
theorem dX11_tableOf_7 : decode cX11_tableOf 7 = .ok (.iload_n 2, 1) := by decide +kernel
theorem dX11_tableOf_8 : decode cX11_tableOf 8 = .ok (.if_icmp .ge 36, 3) := by decide +kernel
theorem dX11_tableOf_11 : decode cX11_tableOf 11 = .ok (.aload_n 0, 1) := by decide +kernel
theorem dX11_tableOf_12 : decode cX11_tableOf 12 = .ok (.iload_n 1, 1) := by decide +kernel
theorem dX11_tableOf_13 : decode cX11_tableOf 13 = .ok (.iload 4, 2) := by decide +kernel
theorem dX11_tableOf_15 : decode cX11_tableOf 15 = .ok (.bipush 16, 2) := by decide +kernel
theorem dX11_tableOf_17 : decode cX11_tableOf 17 = .ok (.iload_n 2, 1) := by decide +kernel
theorem dX11_tableOf_18 : decode cX11_tableOf 18 = .ok (.iload 4, 2) := by decide +kernel
theorem dX11_tableOf_20 : decode cX11_tableOf 20 = .ok (.invokevirtual 254, 3) := by decide +kernel
theorem dX11_tableOf_23 : decode cX11_tableOf 23 = .ok (.istore 5, 2) := by decide +kernel
theorem dX11_tableOf_25 : decode cX11_tableOf 25 = .ok (.iload 5, 2) := by decide +kernel
theorem dX11_tableOf_27 : decode cX11_tableOf 27 = .ok (.iload_n 3, 1) := by decide +kernel
theorem dX11_tableOf_28 : decode cX11_tableOf 28 = .ok (.if_icmp .le 8, 3) := by decide +kernel
theorem dX11_tableOf_31 : decode cX11_tableOf 31 = .ok (.iload 5, 2) := by decide +kernel
theorem dX11_tableOf_33 : decode cX11_tableOf 33 = .ok (.goto 4, 3) := by decide +kernel
theorem dX11_tableOf_36 : decode cX11_tableOf 36 = .ok (.iload_n 3, 1) := by decide +kernel
theorem dX11_tableOf_37 : decode cX11_tableOf 37 = .ok (.istore_n 3, 1) := by decide +kernel
theorem dX11_tableOf_38 : decode cX11_tableOf 38 = .ok (.iinc 4 1, 3) := by decide +kernel
theorem dX11_tableOf_41 : decode cX11_tableOf 41 = .ok (.goto (-36), 3) := by decide +kernel
theorem dX11_tableOf_44 : decode cX11_tableOf 44 = .ok (.iload_n 3, 1) := by decide +kernel
theorem dX11_tableOf_45 : decode cX11_tableOf 45 = .ok (.iload_n 2, 1) := by decide +kernel
theorem dX11_tableOf_46 : decode cX11_tableOf 46 = .ok (.iconst 3, 1) := by decide +kernel
theorem dX11_tableOf_47 : decode cX11_tableOf 47 = .ok (.if_icmp .le 14, 3) := by decide +kernel
theorem dX11_tableOf_50 : decode cX11_tableOf 50 = .ok (.iload_n 2, 1) := by decide +kernel
theorem dX11_tableOf_51 : decode cX11_tableOf 51 = .ok (.iconst 3, 1) := by decide +kernel
theorem dX11_tableOf_52 : decode cX11_tableOf 52 = .ok (.isub, 1) := by decide +kernel
theorem dX11_tableOf_53 : decode cX11_tableOf 53 = .ok (.iload_n 3, 1) := by decide +kernel
theorem dX11_tableOf_54 : decode cX11_tableOf 54 = .ok (.bipush 10, 2) := by decide +kernel
theorem dX11_tableOf_56 : decode cX11_tableOf 56 = .ok (.idiv, 1) := by decide +kernel
theorem dX11_tableOf_57 : decode cX11_tableOf 57 = .ok (.imul, 1) := by decide +kernel
theorem dX11_tableOf_58 : decode cX11_tableOf 58 = .ok (.goto 4, 3) := by decide +kernel
theorem dX11_tableOf_61 : decode cX11_tableOf 61 = .ok (.iconst 0, 1) := by decide +kernel
theorem dX11_tableOf_62 : decode cX11_tableOf 62 = .ok (.iadd, 1) := by decide +kernel
theorem dX11_tableOf_63 : decode cX11_tableOf 63 = .ok (.aload_n 0, 1) := by decide +kernel
theorem dX11_tableOf_64 : decode cX11_tableOf 64 = .ok (.iload_n 1, 1) := by decide +kernel
theorem dX11_tableOf_65 : decode cX11_tableOf 65 = .ok (.invokevirtual 251, 3) := by decide +kernel
theorem dX11_tableOf_68 : decode cX11_tableOf 68 = .ok (.iadd, 1) := by decide +kernel
theorem dX11_tableOf_69 : decode cX11_tableOf 69 = .ok (.ireturn, 1) := by decide +kernel
theorem dX11_table_0 : decode cX11_table 0 = .ok (.iload_n 1, 1) := by decide +kernel
theorem dX11_table_1 : decode cX11_table 1 = .ok (.iconst 0, 1) := by decide +kernel
theorem dX11_table_2 : decode cX11_table 2 = .ok (.iconst 4, 1) := by decide +kernel
theorem dX11_table_3 : decode cX11_table 3 = .ok (.invokestatic 124, 3) := by decide +kernel
theorem dX11_table_6 : decode cX11_table 6 = .ok (.ifCond .ne 10, 3) := by decide +kernel
theorem dX11_table_9 : decode cX11_table 9 = .ok (.aload_n 0, 1) := by decide +kernel
theorem dX11_table_10 : decode cX11_table 10 = .ok (.bipush (-2), 2) := by decide +kernel
theorem dX11_table_12 : decode cX11_table 12 = .ok (.invokevirtual 112, 3) := by decide +kernel
theorem dX11_table_15 : decode cX11_table 15 = .ok (.ireturn, 1) := by decide +kernel
theorem dX11_table_16 : decode cX11_table 16 = .ok (.iload_n 2, 1) := by decide +kernel
theorem dX11_table_17 : decode cX11_table 17 = .ok (.iconst 1, 1) := by decide +kernel
theorem dX11_table_18 : decode cX11_table 18 = .ok (.aload_n 0, 1) := by decide +kernel
theorem dX11_table_19 : decode cX11_table 19 = .ok (.getfield 95, 3) := by decide +kernel
theorem dX11_table_22 : decode cX11_table 22 = .ok (.invokestatic 105, 3) := by decide +kernel
theorem dX11_table_25 : decode cX11_table 25 = .ok (.istore_n 3, 1) := by decide +kernel
theorem dX11_table_26 : decode cX11_table 26 = .ok (.iload_n 3, 1) := by decide +kernel
theorem dX11_table_27 : decode cX11_table 27 = .ok (.ifCond .eq 11, 3) := by decide +kernel
theorem dX11_table_30 : decode cX11_table 30 = .ok (.aload_n 0, 1) := by decide +kernel
theorem dX11_table_31 : decode cX11_table 31 = .ok (.iload_n 3, 1) := by decide +kernel
theorem dX11_table_32 : decode cX11_table 32 = .ok (.invokevirtual 112, 3) := by decide +kernel
theorem dX11_table_35 : decode cX11_table 35 = .ok (.goto 9, 3) := by decide +kernel
theorem dX11_table_38 : decode cX11_table 38 = .ok (.aload_n 0, 1) := by decide +kernel
theorem dX11_table_39 : decode cX11_table 39 = .ok (.iload_n 1, 1) := by decide +kernel
theorem dX11_table_40 : decode cX11_table 40 = .ok (.iload_n 2, 1) := by decide +kernel
theorem dX11_table_41 : decode cX11_table 41 = .ok (.invokevirtual 261, 3) := by decide +kernel
theorem dX11_table_44 : decode cX11_table 44 = .ok (.ireturn, 1) := by decide +kernel
theorem dX11_line_0 : decode cX11_line 0 = .ok (.iload_n 1, 1) := by decide +kernel
theorem dX11_line_1 : decode cX11_line 1 = .ok (.iconst 0, 1) := by decide +kernel
theorem dX11_line_2 : decode cX11_line 2 = .ok (.iconst 4, 1) := by decide +kernel
theorem dX11_line_3 : decode cX11_line 3 = .ok (.invokestatic 124, 3) := by decide +kernel
theorem dX11_line_6 : decode cX11_line 6 = .ok (.ifCond .ne 10, 3) := by decide +kernel
theorem dX11_line_9 : decode cX11_line 9 = .ok (.aload_n 0, 1) := by decide +kernel
theorem dX11_line_10 : decode cX11_line 10 = .ok (.bipush (-2), 2) := by decide +kernel
theorem dX11_line_12 : decode cX11_line 12 = .ok (.invokevirtual 112, 3) := by decide +kernel
theorem dX11_line_15 : decode cX11_line 15 = .ok (.ireturn, 1) := by decide +kernel
theorem dX11_line_16 : decode cX11_line 16 = .ok (.aload_n 0, 1) := by decide +kernel
theorem dX11_line_17 : decode cX11_line 17 = .ok (.getfield 95, 3) := by decide +kernel
theorem dX11_line_20 : decode cX11_line 20 = .ok (.ifCond .ne 6, 3) := by decide +kernel
theorem dX11_line_23 : decode cX11_line 23 = .ok (.bipush (-9), 2) := by decide +kernel
theorem dX11_line_25 : decode cX11_line 25 = .ok (.ireturn, 1) := by decide +kernel
theorem dX11_line_26 : decode cX11_line 26 = .ok (.iconst 1, 1) := by decide +kernel
theorem dX11_line_27 : decode cX11_line 27 = .ok (.istore_n 2, 1) := by decide +kernel
theorem dX11_line_28 : decode cX11_line 28 = .ok (.iconst 2, 1) := by decide +kernel
theorem dX11_line_29 : decode cX11_line 29 = .ok (.istore_n 3, 1) := by decide +kernel
theorem dX11_line_30 : decode cX11_line 30 = .ok (.iload_n 3, 1) := by decide +kernel
theorem dX11_line_31 : decode cX11_line 31 = .ok (.aload_n 0, 1) := by decide +kernel
theorem dX11_line_32 : decode cX11_line 32 = .ok (.getfield 95, 3) := by decide +kernel
theorem dX11_line_35 : decode cX11_line 35 = .ok (.if_icmp .gt 30, 3) := by decide +kernel
theorem dX11_line_38 : decode cX11_line 38 = .ok (.aload_n 0, 1) := by decide +kernel
theorem dX11_line_39 : decode cX11_line 39 = .ok (.iload_n 1, 1) := by decide +kernel
theorem dX11_line_40 : decode cX11_line 40 = .ok (.iload_n 3, 1) := by decide +kernel
theorem dX11_line_41 : decode cX11_line 41 = .ok (.invokevirtual 261, 3) := by decide +kernel
theorem dX11_line_44 : decode cX11_line 44 = .ok (.aload_n 0, 1) := by decide +kernel
theorem dX11_line_45 : decode cX11_line 45 = .ok (.iload_n 1, 1) := by decide +kernel
theorem dX11_line_46 : decode cX11_line 46 = .ok (.iload_n 2, 1) := by decide +kernel
theorem dX11_line_47 : decode cX11_line 47 = .ok (.invokevirtual 261, 3) := by decide +kernel
theorem dX11_line_50 : decode cX11_line 50 = .ok (.if_icmp .ge 7, 3) := by decide +kernel
theorem dX11_line_53 : decode cX11_line 53 = .ok (.iload_n 3, 1) := by decide +kernel
theorem dX11_line_54 : decode cX11_line 54 = .ok (.goto 4, 3) := by decide +kernel
theorem dX11_line_57 : decode cX11_line 57 = .ok (.iload_n 2, 1) := by decide +kernel
theorem dX11_line_58 : decode cX11_line 58 = .ok (.istore_n 2, 1) := by decide +kernel
theorem dX11_line_59 : decode cX11_line 59 = .ok (.iinc 3 1, 3) := by decide +kernel
theorem dX11_line_62 : decode cX11_line 62 = .ok (.goto (-32), 3) := by decide +kernel
theorem dX11_line_65 : decode cX11_line 65 = .ok (.iload_n 2, 1) := by decide +kernel
theorem dX11_line_66 : decode cX11_line 66 = .ok (.ireturn, 1) := by decide +kernel
theorem dX11_seemsOf_0 : decode cX11_seemsOf 0 = .ok (.iconst 0, 1) := by decide +kernel
theorem dX11_seemsOf_1 : decode cX11_seemsOf 1 = .ok (.istore_n 1, 1) := by decide +kernel
theorem dX11_seemsOf_2 : decode cX11_seemsOf 2 = .ok (.iconst 0, 1) := by decide +kernel
theorem dX11_seemsOf_3 : decode cX11_seemsOf 3 = .ok (.istore_n 2, 1) := by decide +kernel
theorem dX11_seemsOf_4 : decode cX11_seemsOf 4 = .ok (.iload_n 2, 1) := by decide +kernel
theorem dX11_seemsOf_5 : decode cX11_seemsOf 5 = .ok (.aload_n 0, 1) := by decide +kernel
theorem dX11_seemsOf_6 : decode cX11_seemsOf 6 = .ok (.invokevirtual 91, 3) := by decide +kernel
theorem dX11_seemsOf_9 : decode cX11_seemsOf 9 = .ok (.if_icmp .ge 150, 3) := by decide +kernel
theorem dX11_seemsOf_12 : decode cX11_seemsOf 12 = .ok (.iload_n 2, 1) := by decide +kernel
theorem dX11_seemsOf_13 : decode cX11_seemsOf 13 = .ok (.iconst 1, 1) := by decide +kernel
theorem dX11_seemsOf_14 : decode cX11_seemsOf 14 = .ok (.iadd, 1) := by decide +kernel
theorem dX11_seemsOf_15 : decode cX11_seemsOf 15 = .ok (.istore_n 3, 1) := by decide +kernel
theorem dX11_seemsOf_16 : decode cX11_seemsOf 16 = .ok (.iload_n 3, 1) := by decide +kernel
theorem dX11_seemsOf_17 : decode cX11_seemsOf 17 = .ok (.aload_n 0, 1) := by decide +kernel
theorem dX11_seemsOf_18 : decode cX11_seemsOf 18 = .ok (.invokevirtual 91, 3) := by decide +kernel
theorem dX11_seemsOf_21 : decode cX11_seemsOf 21 = .ok (.if_icmp .ge 132, 3) := by decide +kernel
theorem dX11_seemsOf_24 : decode cX11_seemsOf 24 = .ok (.aload_n 0, 1) := by decide +kernel
theorem dX11_seemsOf_25 : decode cX11_seemsOf 25 = .ok (.getfield 31, 3) := by decide +kernel
theorem dX11_seemsOf_28 : decode cX11_seemsOf 28 = .ok (.iload_n 2, 1) := by decide +kernel
theorem dX11_seemsOf_29 : decode cX11_seemsOf 29 = .ok (.iaload, 1) := by decide +kernel
theorem dX11_seemsOf_30 : decode cX11_seemsOf 30 = .ok (.iconst 1, 1) := by decide +kernel
theorem dX11_seemsOf_31 : decode cX11_seemsOf 31 = .ok (.if_icmp .eq 116, 3) := by decide +kernel
theorem dX11_seemsOf_34 : decode cX11_seemsOf 34 = .ok (.aload_n 0, 1) := by decide +kernel
theorem dX11_seemsOf_35 : decode cX11_seemsOf 35 = .ok (.getfield 31, 3) := by decide +kernel
theorem dX11_seemsOf_38 : decode cX11_seemsOf 38 = .ok (.iload_n 3, 1) := by decide +kernel
theorem dX11_seemsOf_39 : decode cX11_seemsOf 39 = .ok (.iaload, 1) := by decide +kernel
theorem dX11_seemsOf_40 : decode cX11_seemsOf 40 = .ok (.iconst 1, 1) := by decide +kernel
theorem dX11_seemsOf_41 : decode cX11_seemsOf 41 = .ok (.if_icmp .ne 6, 3) := by decide +kernel
theorem dX11_seemsOf_44 : decode cX11_seemsOf 44 = .ok (.goto 103, 3) := by decide +kernel
theorem dX11_seemsOf_47 : decode cX11_seemsOf 47 = .ok (.iconst 0, 1) := by decide +kernel
theorem dX11_seemsOf_48 : decode cX11_seemsOf 48 = .ok (.istore 4, 2) := by decide +kernel
theorem dX11_seemsOf_50 : decode cX11_seemsOf 50 = .ok (.iload 4, 2) := by decide +kernel
theorem dX11_seemsOf_52 : decode cX11_seemsOf 52 = .ok (.iconst 4, 1) := by decide +kernel
theorem dX11_seemsOf_53 : decode cX11_seemsOf 53 = .ok (.if_icmp .ge 94, 3) := by decide +kernel
theorem dX11_seemsOf_56 : decode cX11_seemsOf 56 = .ok (.iconst 0, 1) := by decide +kernel
theorem dX11_seemsOf_57 : decode cX11_seemsOf 57 = .ok (.istore 5, 2) := by decide +kernel
theorem dX11_seemsOf_59 : decode cX11_seemsOf 59 = .ok (.iload 5, 2) := by decide +kernel
theorem dX11_seemsOf_61 : decode cX11_seemsOf 61 = .ok (.iconst 4, 1) := by decide +kernel
theorem dX11_seemsOf_62 : decode cX11_seemsOf 62 = .ok (.if_icmp .ge 79, 3) := by decide +kernel
theorem dX11_seemsOf_65 : decode cX11_seemsOf 65 = .ok (.aload_n 0, 1) := by decide +kernel
theorem dX11_seemsOf_66 : decode cX11_seemsOf 66 = .ok (.iload_n 2, 1) := by decide +kernel
theorem dX11_seemsOf_67 : decode cX11_seemsOf 67 = .ok (.iload 4, 2) := by decide +kernel
theorem dX11_seemsOf_69 : decode cX11_seemsOf 69 = .ok (.invokevirtual 98, 3) := by decide +kernel
theorem dX11_seemsOf_72 : decode cX11_seemsOf 72 = .ok (.iload_n 3, 1) := by decide +kernel
theorem dX11_seemsOf_73 : decode cX11_seemsOf 73 = .ok (.if_icmp .ne 18, 3) := by decide +kernel
theorem dX11_seemsOf_76 : decode cX11_seemsOf 76 = .ok (.iload 5, 2) := by decide +kernel
theorem dX11_seemsOf_78 : decode cX11_seemsOf 78 = .ok (.iload 4, 2) := by decide +kernel
theorem dX11_seemsOf_80 : decode cX11_seemsOf 80 = .ok (.iconst 2, 1) := by decide +kernel
theorem dX11_seemsOf_81 : decode cX11_seemsOf 81 = .ok (.iadd, 1) := by decide +kernel
theorem dX11_seemsOf_82 : decode cX11_seemsOf 82 = .ok (.iconst 4, 1) := by decide +kernel
theorem dX11_seemsOf_83 : decode cX11_seemsOf 83 = .ok (.irem, 1) := by decide +kernel
theorem dX11_seemsOf_84 : decode cX11_seemsOf 84 = .ok (.if_icmp .ne 7, 3) := by decide +kernel
theorem dX11_seemsOf_87 : decode cX11_seemsOf 87 = .ok (.iconst 1, 1) := by decide +kernel
theorem dX11_seemsOf_88 : decode cX11_seemsOf 88 = .ok (.goto 4, 3) := by decide +kernel
theorem dX11_seemsOf_91 : decode cX11_seemsOf 91 = .ok (.iconst 0, 1) := by decide +kernel
theorem dX11_seemsOf_92 : decode cX11_seemsOf 92 = .ok (.istore 6, 2) := by decide +kernel
theorem dX11_seemsOf_94 : decode cX11_seemsOf 94 = .ok (.iload_n 1, 1) := by decide +kernel
theorem dX11_seemsOf_95 : decode cX11_seemsOf 95 = .ok (.iload 6, 2) := by decide +kernel
theorem dX11_seemsOf_97 : decode cX11_seemsOf 97 = .ok (.ifCond .ne 35, 3) := by decide +kernel
theorem dX11_seemsOf_100 : decode cX11_seemsOf 100 = .ok (.aload_n 0, 1) := by decide +kernel
theorem dX11_seemsOf_101 : decode cX11_seemsOf 101 = .ok (.iload_n 2, 1) := by decide +kernel
theorem dX11_seemsOf_102 : decode cX11_seemsOf 102 = .ok (.iload 4, 2) := by decide +kernel
theorem dX11_seemsOf_104 : decode cX11_seemsOf 104 = .ok (.invokevirtual 102, 3) := by decide +kernel
theorem dX11_seemsOf_107 : decode cX11_seemsOf 107 = .ok (.ifCond .eq 25, 3) := by decide +kernel
theorem dX11_seemsOf_110 : decode cX11_seemsOf 110 = .ok (.aload_n 0, 1) := by decide +kernel
theorem dX11_seemsOf_111 : decode cX11_seemsOf 111 = .ok (.iload_n 2, 1) := by decide +kernel
theorem dX11_seemsOf_112 : decode cX11_seemsOf 112 = .ok (.iload 4, 2) := by decide +kernel
theorem dX11_seemsOf_114 : decode cX11_seemsOf 114 = .ok (.invokevirtual 102, 3) := by decide +kernel
theorem dX11_seemsOf_117 : decode cX11_seemsOf 117 = .ok (.aload_n 0, 1) := by decide +kernel
theorem dX11_seemsOf_118 : decode cX11_seemsOf 118 = .ok (.iload_n 3, 1) := by decide +kernel
theorem dX11_seemsOf_119 : decode cX11_seemsOf 119 = .ok (.iload 5, 2) := by decide +kernel
theorem dX11_seemsOf_121 : decode cX11_seemsOf 121 = .ok (.invokevirtual 102, 3) := by decide +kernel
theorem dX11_seemsOf_124 : decode cX11_seemsOf 124 = .ok (.iadd, 1) := by decide +kernel
theorem dX11_seemsOf_125 : decode cX11_seemsOf 125 = .ok (.ifCond .ne 7, 3) := by decide +kernel
theorem dX11_seemsOf_128 : decode cX11_seemsOf 128 = .ok (.iconst 1, 1) := by decide +kernel
theorem dX11_seemsOf_129 : decode cX11_seemsOf 129 = .ok (.goto 4, 3) := by decide +kernel
theorem dX11_seemsOf_132 : decode cX11_seemsOf 132 = .ok (.iconst 0, 1) := by decide +kernel
theorem dX11_seemsOf_133 : decode cX11_seemsOf 133 = .ok (.iadd, 1) := by decide +kernel
theorem dX11_seemsOf_134 : decode cX11_seemsOf 134 = .ok (.istore_n 1, 1) := by decide +kernel
theorem dX11_seemsOf_135 : decode cX11_seemsOf 135 = .ok (.iinc 5 1, 3) := by decide +kernel
theorem dX11_seemsOf_138 : decode cX11_seemsOf 138 = .ok (.goto (-79), 3) := by decide +kernel
theorem dX11_seemsOf_141 : decode cX11_seemsOf 141 = .ok (.iinc 4 1, 3) := by decide +kernel
theorem dX11_seemsOf_144 : decode cX11_seemsOf 144 = .ok (.goto (-94), 3) := by decide +kernel
theorem dX11_seemsOf_147 : decode cX11_seemsOf 147 = .ok (.iinc 3 1, 3) := by decide +kernel
theorem dX11_seemsOf_150 : decode cX11_seemsOf 150 = .ok (.goto (-134), 3) := by decide +kernel
theorem dX11_seemsOf_153 : decode cX11_seemsOf 153 = .ok (.iinc 2 1, 3) := by decide +kernel
theorem dX11_seemsOf_156 : decode cX11_seemsOf 156 = .ok (.goto (-152), 3) := by decide +kernel
theorem dX11_seemsOf_159 : decode cX11_seemsOf 159 = .ok (.iload_n 1, 1) := by decide +kernel
theorem dX11_seemsOf_160 : decode cX11_seemsOf 160 = .ok (.ireturn, 1) := by decide +kernel
theorem dX11_seems_0 : decode cX11_seems 0 = .ok (.aload_n 0, 1) := by decide +kernel
theorem dX11_seems_1 : decode cX11_seems 1 = .ok (.invokevirtual 264, 3) := by decide +kernel
theorem dX11_seems_4 : decode cX11_seems 4 = .ok (.ireturn, 1) := by decide +kernel
theorem dX11_isOwn_0 : decode cX11_isOwn 0 = .ok (.aload_n 0, 1) := by decide +kernel
theorem dX11_isOwn_1 : decode cX11_isOwn 1 = .ok (.getfield 22, 3) := by decide +kernel
theorem dX11_isOwn_4 : decode cX11_isOwn 4 = .ok (.iload_n 1, 1) := by decide +kernel
theorem dX11_isOwn_5 : decode cX11_isOwn 5 = .ok (.iaload, 1) := by decide +kernel
theorem dX11_isOwn_6 : decode cX11_isOwn 6 = .ok (.iload_n 1, 1) := by decide +kernel
theorem dX11_isOwn_7 : decode cX11_isOwn 7 = .ok (.if_icmp .ne 16, 3) := by decide +kernel
theorem dX11_isOwn_10 : decode cX11_isOwn 10 = .ok (.aload_n 0, 1) := by decide +kernel
theorem dX11_isOwn_11 : decode cX11_isOwn 11 = .ok (.getfield 25, 3) := by decide +kernel
theorem dX11_isOwn_14 : decode cX11_isOwn 14 = .ok (.iload_n 1, 1) := by decide +kernel
theorem dX11_isOwn_15 : decode cX11_isOwn 15 = .ok (.iaload, 1) := by decide +kernel
theorem dX11_isOwn_16 : decode cX11_isOwn 16 = .ok (.ifCond .ne 7, 3) := by decide +kernel
theorem dX11_isOwn_19 : decode cX11_isOwn 19 = .ok (.iconst 1, 1) := by decide +kernel
theorem dX11_isOwn_20 : decode cX11_isOwn 20 = .ok (.goto 4, 3) := by decide +kernel
theorem dX11_isOwn_23 : decode cX11_isOwn 23 = .ok (.iconst 0, 1) := by decide +kernel
theorem dX11_isOwn_24 : decode cX11_isOwn 24 = .ok (.ireturn, 1) := by decide +kernel
theorem dX11_wrong_0 : decode cX11_wrong 0 = .ok (.iconst 0, 1) := by decide +kernel
theorem dX11_wrong_1 : decode cX11_wrong 1 = .ok (.istore_n 1, 1) := by decide +kernel
theorem dX11_wrong_2 : decode cX11_wrong 2 = .ok (.iconst 0, 1) := by decide +kernel
theorem dX11_wrong_3 : decode cX11_wrong 3 = .ok (.istore_n 2, 1) := by decide +kernel
theorem dX11_wrong_4 : decode cX11_wrong 4 = .ok (.iload_n 2, 1) := by decide +kernel
theorem dX11_wrong_5 : decode cX11_wrong 5 = .ok (.aload_n 0, 1) := by decide +kernel
theorem dX11_wrong_6 : decode cX11_wrong 6 = .ok (.invokevirtual 91, 3) := by decide +kernel
theorem dX11_wrong_9 : decode cX11_wrong 9 = .ok (.if_icmp .ge 25, 3) := by decide +kernel
theorem dX11_wrong_12 : decode cX11_wrong 12 = .ok (.iload_n 1, 1) := by decide +kernel
theorem dX11_wrong_13 : decode cX11_wrong 13 = .ok (.aload_n 0, 1) := by decide +kernel
theorem dX11_wrong_14 : decode cX11_wrong 14 = .ok (.iload_n 2, 1) := by decide +kernel
theorem dX11_wrong_15 : decode cX11_wrong 15 = .ok (.invokevirtual 267, 3) := by decide +kernel
theorem dX11_wrong_18 : decode cX11_wrong 18 = .ok (.ifCond .eq 7, 3) := by decide +kernel
theorem dX11_wrong_21 : decode cX11_wrong 21 = .ok (.iconst 0, 1) := by decide +kernel
theorem dX11_wrong_22 : decode cX11_wrong 22 = .ok (.goto 4, 3) := by decide +kernel
theorem dX11_wrong_25 : decode cX11_wrong 25 = .ok (.iconst 1, 1) := by decide +kernel
theorem dX11_wrong_26 : decode cX11_wrong 26 = .ok (.iadd, 1) := by decide +kernel
theorem dX11_wrong_27 : decode cX11_wrong 27 = .ok (.istore_n 1, 1) := by decide +kernel
theorem dX11_wrong_28 : decode cX11_wrong 28 = .ok (.iinc 2 1, 3) := by decide +kernel
theorem dX11_wrong_31 : decode cX11_wrong 31 = .ok (.goto (-27), 3) := by decide +kernel
theorem dX11_wrong_34 : decode cX11_wrong 34 = .ok (.iload_n 1, 1) := by decide +kernel
theorem dX11_wrong_35 : decode cX11_wrong 35 = .ok (.ireturn, 1) := by decide +kernel
theorem dX11_falseOne_0 : decode cX11_falseOne 0 = .ok (.iconst 0, 1) := by decide +kernel
theorem dX11_falseOne_1 : decode cX11_falseOne 1 = .ok (.istore_n 1, 1) := by decide +kernel
theorem dX11_falseOne_2 : decode cX11_falseOne 2 = .ok (.iload_n 1, 1) := by decide +kernel
theorem dX11_falseOne_3 : decode cX11_falseOne 3 = .ok (.aload_n 0, 1) := by decide +kernel
theorem dX11_falseOne_4 : decode cX11_falseOne 4 = .ok (.invokevirtual 91, 3) := by decide +kernel
theorem dX11_falseOne_7 : decode cX11_falseOne 7 = .ok (.if_icmp .ge 28, 3) := by decide +kernel
theorem dX11_falseOne_10 : decode cX11_falseOne 10 = .ok (.aload_n 0, 1) := by decide +kernel
theorem dX11_falseOne_11 : decode cX11_falseOne 11 = .ok (.getfield 22, 3) := by decide +kernel
