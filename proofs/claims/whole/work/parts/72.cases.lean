/-! the law's twelve cases, each from its bytecode -/
theorem lu0 : Cond.codeWith yL_feed method_3_code 8 (Option.some Jvm.ClassFile.FieldType.int) [(0, 16, 19, 13)] ∈ UW := inUW 623 (by decide +kernel) rfl
theorem lu1 : Cond.methodLink RL 51 yL_feed ∈ UW := inUW 621 (by decide +kernel) rfl
theorem lu2 : Cond.static yL_feed ∈ UW := inUW 622 (by decide +kernel) rfl
theorem lu3 : Cond.initialized RL ∈ UW := inUW 61 (by decide +kernel) rfl
theorem lu4 : Cond.code yX11_feed cX11_feed 6 (some .int) ∈ UW := inUW 1099 (by decide +kernel) rfl
theorem lu5 : Cond.instanceMethod yX11_feed ∈ UW := inUW 1097 (by decide +kernel) rfl
theorem lu6 : Cond.selects RX11 yX11_feed yX11_feed ∈ UW := inUW 1098 (by decide +kernel) rfl
theorem lu7 : Cond.initialized RX11 ∈ UW := inUW 73 (by decide +kernel) rfl
theorem lu8 : Cond.methodLink RL 56 yX11_feed ∈ UW := inUW 1096 (by decide +kernel) rfl
theorem lu9 : Cond.code yX11_thrown cX11_thrown 1 (some .int) ∈ UW := inUW 1095 (by decide +kernel) rfl
theorem lu10 : Cond.instanceMethod yX11_thrown ∈ UW := inUW 1093 (by decide +kernel) rfl
theorem lu11 : Cond.selects RX11 yX11_thrown yX11_thrown ∈ UW := inUW 1094 (by decide +kernel) rfl
theorem lu12 : Cond.methodLink RL 57 yX11_thrown ∈ UW := inUW 1092 (by decide +kernel) rfl
theorem lu13 : Cond.code yX10_clear cX10_clear 2 (some .int) ∈ UW := inUW 423 (by decide +kernel) rfl
theorem lu14 : Cond.instanceMethod yX10_clear ∈ UW := inUW 421 (by decide +kernel) rfl
theorem lu15 : Cond.selects RX10 yX10_clear yX10_clear ∈ UW := inUW 422 (by decide +kernel) rfl
theorem lu16 : Cond.initialized RX10 ∈ UW := inUW 62 (by decide +kernel) rfl
theorem lu17 : Cond.methodLink RL 61 yX10_clear ∈ UW := inUW 420 (by decide +kernel) rfl
theorem lu18 : Cond.code yX11_clear cX11_clear 2 (some .int) ∈ UW := inUW 1114 (by decide +kernel) rfl
theorem lu19 : Cond.instanceMethod yX11_clear ∈ UW := inUW 1112 (by decide +kernel) rfl
theorem lu20 : Cond.selects RX11 yX11_clear yX11_clear ∈ UW := inUW 1113 (by decide +kernel) rfl
theorem lu21 : Cond.methodLink RL 64 yX11_clear ∈ UW := inUW 1111 (by decide +kernel) rfl
theorem lu22 : Cond.code yX10_compile cX10_compile 2 (some .int) ∈ UW := inUW 427 (by decide +kernel) rfl
theorem lu23 : Cond.instanceMethod yX10_compile ∈ UW := inUW 425 (by decide +kernel) rfl
theorem lu24 : Cond.selects RX10 yX10_compile yX10_compile ∈ UW := inUW 426 (by decide +kernel) rfl
theorem lu25 : Cond.methodLink RL 65 yX10_compile ∈ UW := inUW 424 (by decide +kernel) rfl
theorem lu26 : Cond.code yX11_compile cX11_compile 2 (some .int) ∈ UW := inUW 1118 (by decide +kernel) rfl
theorem lu27 : Cond.instanceMethod yX11_compile ∈ UW := inUW 1116 (by decide +kernel) rfl
theorem lu28 : Cond.selects RX11 yX11_compile yX11_compile ∈ UW := inUW 1117 (by decide +kernel) rfl
theorem lu29 : Cond.methodLink RL 68 yX11_compile ∈ UW := inUW 1115 (by decide +kernel) rfl
theorem lu30 : Cond.codeWith yL_give method_4_code 4 (Option.some Jvm.ClassFile.FieldType.int) [(0, 9, 12, 13)] ∈ UW := inUW 706 (by decide +kernel) rfl
theorem lu31 : Cond.methodLink RL 69 yL_give ∈ UW := inUW 704 (by decide +kernel) rfl
theorem lu32 : Cond.static yL_give ∈ UW := inUW 705 (by decide +kernel) rfl
theorem lu33 : Cond.code yX11_give cX11_give 2 (some .int) ∈ UW := inUW 1188 (by decide +kernel) rfl
theorem lu34 : Cond.instanceMethod yX11_give ∈ UW := inUW 1186 (by decide +kernel) rfl
theorem lu35 : Cond.selects RX11 yX11_give yX11_give ∈ UW := inUW 1187 (by decide +kernel) rfl
theorem lu36 : Cond.methodLink RL 72 yX11_give ∈ UW := inUW 1185 (by decide +kernel) rfl
theorem lu37 : Cond.codeWith yL_start method_5_code 2 (Option.some Jvm.ClassFile.FieldType.int) [(0, 4, 7, 13)] ∈ UW := inUW 718 (by decide +kernel) rfl
theorem lu38 : Cond.methodLink RL 73 yL_start ∈ UW := inUW 716 (by decide +kernel) rfl
theorem lu39 : Cond.static yL_start ∈ UW := inUW 717 (by decide +kernel) rfl
theorem lu40 : Cond.code yX11_start cX11_start 2 none ∈ UW := inUW 1192 (by decide +kernel) rfl
theorem lu41 : Cond.instanceMethod yX11_start ∈ UW := inUW 1190 (by decide +kernel) rfl
theorem lu42 : Cond.selects RX11 yX11_start yX11_start ∈ UW := inUW 1191 (by decide +kernel) rfl
theorem lu43 : Cond.methodLink RL 76 yX11_start ∈ UW := inUW 1189 (by decide +kernel) rfl
theorem lu44 : Cond.codeWith yL_run method_6_code 4 (Option.some Jvm.ClassFile.FieldType.int) [(0, 9, 12, 25), (0, 9, 15, 13)] ∈ UW := inUW 731 (by decide +kernel) rfl
theorem lu45 : Cond.methodLink RL 77 yL_run ∈ UW := inUW 729 (by decide +kernel) rfl
theorem lu46 : Cond.static yL_run ∈ UW := inUW 730 (by decide +kernel) rfl
theorem lu47 : Cond.code yX11_run cX11_run 3 (some .int) ∈ UW := inUW 1200 (by decide +kernel) rfl
theorem lu48 : Cond.instanceMethod yX11_run ∈ UW := inUW 1198 (by decide +kernel) rfl
theorem lu49 : Cond.selects RX11 yX11_run yX11_run ∈ UW := inUW 1199 (by decide +kernel) rfl
theorem lu50 : Cond.methodLink RL 79 yX11_run ∈ UW := inUW 1197 (by decide +kernel) rfl
theorem lu51 : Cond.codeWith yL_state method_7_code 4 (Option.some Jvm.ClassFile.FieldType.int) [(0, 9, 12, 25), (0, 9, 15, 13)] ∈ UW := inUW 827 (by decide +kernel) rfl
theorem lu52 : Cond.methodLink RL 80 yL_state ∈ UW := inUW 825 (by decide +kernel) rfl
theorem lu53 : Cond.static yL_state ∈ UW := inUW 826 (by decide +kernel) rfl
theorem lu54 : Cond.code yX11_state cX11_state 3 (some .int) ∈ UW := inUW 1222 (by decide +kernel) rfl
theorem lu55 : Cond.instanceMethod yX11_state ∈ UW := inUW 1220 (by decide +kernel) rfl
theorem lu56 : Cond.selects RX11 yX11_state yX11_state ∈ UW := inUW 1221 (by decide +kernel) rfl
theorem lu57 : Cond.methodLink RL 82 yX11_state ∈ UW := inUW 1219 (by decide +kernel) rfl
theorem lu58 : Cond.codeWith yL_output method_8_code 4 (Option.some Jvm.ClassFile.FieldType.int) [(0, 9, 12, 33)] ∈ UW := inUW 843 (by decide +kernel) rfl
theorem lu59 : Cond.methodLink RL 83 yL_output ∈ UW := inUW 841 (by decide +kernel) rfl
theorem lu60 : Cond.static yL_output ∈ UW := inUW 842 (by decide +kernel) rfl
theorem lu61 : Cond.code yX11_output cX11_output 2 (some .int) ∈ UW := inUW 1226 (by decide +kernel) rfl
theorem lu62 : Cond.instanceMethod yX11_output ∈ UW := inUW 1224 (by decide +kernel) rfl
theorem lu63 : Cond.selects RX11 yX11_output yX11_output ∈ UW := inUW 1225 (by decide +kernel) rfl
theorem lu64 : Cond.methodLink RL 85 yX11_output ∈ UW := inUW 1223 (by decide +kernel) rfl
theorem lu65 : Cond.codeWith yL_name method_9_code 4 (Option.some Jvm.ClassFile.FieldType.int) [(0, 9, 12, 33)] ∈ UW := inUW 875 (by decide +kernel) rfl
theorem lu66 : Cond.methodLink RL 86 yL_name ∈ UW := inUW 873 (by decide +kernel) rfl
theorem lu67 : Cond.static yL_name ∈ UW := inUW 874 (by decide +kernel) rfl
theorem lu68 : Cond.code yX11_name cX11_name 2 (some .int) ∈ UW := inUW 1230 (by decide +kernel) rfl
theorem lu69 : Cond.instanceMethod yX11_name ∈ UW := inUW 1228 (by decide +kernel) rfl
theorem lu70 : Cond.selects RX11 yX11_name yX11_name ∈ UW := inUW 1229 (by decide +kernel) rfl
theorem lu71 : Cond.methodLink RL 88 yX11_name ∈ UW := inUW 1227 (by decide +kernel) rfl
theorem lu72 : Cond.codeWith yL_cell method_10_code 4 (Option.some Jvm.ClassFile.FieldType.int) [(0, 9, 12, 33)] ∈ UW := inUW 883 (by decide +kernel) rfl
theorem lu73 : Cond.methodLink RL 89 yL_cell ∈ UW := inUW 881 (by decide +kernel) rfl
theorem lu74 : Cond.static yL_cell ∈ UW := inUW 882 (by decide +kernel) rfl
theorem lu75 : Cond.code yX11_cell cX11_cell 2 (some .int) ∈ UW := inUW 1234 (by decide +kernel) rfl
theorem lu76 : Cond.instanceMethod yX11_cell ∈ UW := inUW 1232 (by decide +kernel) rfl
theorem lu77 : Cond.selects RX11 yX11_cell yX11_cell ∈ UW := inUW 1233 (by decide +kernel) rfl
theorem lu78 : Cond.methodLink RL 91 yX11_cell ∈ UW := inUW 1231 (by decide +kernel) rfl
theorem lu79 : Cond.codeWith yL_terms method_11_code 4 (Option.some Jvm.ClassFile.FieldType.int) [(0, 9, 12, 33)] ∈ UW := inUW 892 (by decide +kernel) rfl
theorem lu80 : Cond.methodLink RL 92 yL_terms ∈ UW := inUW 890 (by decide +kernel) rfl
theorem lu81 : Cond.static yL_terms ∈ UW := inUW 891 (by decide +kernel) rfl
theorem lu82 : Cond.code yX11_terms cX11_terms 4 (some .int) ∈ UW := inUW 1238 (by decide +kernel) rfl
theorem lu83 : Cond.instanceMethod yX11_terms ∈ UW := inUW 1236 (by decide +kernel) rfl
theorem lu84 : Cond.selects RX11 yX11_terms yX11_terms ∈ UW := inUW 1237 (by decide +kernel) rfl
theorem lu85 : Cond.methodLink RL 94 yX11_terms ∈ UW := inUW 1235 (by decide +kernel) rfl
theorem lu86 : Cond.codeWith yL_count method_12_code 4 (Option.some Jvm.ClassFile.FieldType.int) [(0, 9, 12, 25)] ∈ UW := inUW 923 (by decide +kernel) rfl
theorem lu87 : Cond.methodLink RL 95 yL_count ∈ UW := inUW 921 (by decide +kernel) rfl
theorem lu88 : Cond.static yL_count ∈ UW := inUW 922 (by decide +kernel) rfl
theorem lu89 : Cond.code yX11_count cX11_count 2 (some .int) ∈ UW := inUW 1242 (by decide +kernel) rfl
theorem lu90 : Cond.instanceMethod yX11_count ∈ UW := inUW 1240 (by decide +kernel) rfl
theorem lu91 : Cond.selects RX11 yX11_count yX11_count ∈ UW := inUW 1241 (by decide +kernel) rfl
theorem lu92 : Cond.methodLink RL 97 yX11_count ∈ UW := inUW 1239 (by decide +kernel) rfl
theorem lin {i L k : Nat} (hi : i + 6 ≤ L) (hL : L ≤ 3072) (hk : k < 6) : vp_in (nI i + nI k) L := by
  rw [nI_add]
  exact pk_in (i + k) L (by omega)
theorem dL_law_0 : decode cL_law 0 = .ok (.new 8, 3) := by decide +kernel
theorem dL_law_3 : decode cL_law 3 = .ok (.dup, 1) := by decide +kernel
theorem dL_law_4 : decode cL_law 4 = .ok (.invokespecial 47, 3) := by decide +kernel
theorem dL_law_7 : decode cL_law 7 = .ok (.astore_n 1, 1) := by decide +kernel
theorem dL_law_8 : decode cL_law 8 = .ok (.new 48, 3) := by decide +kernel
theorem dL_law_11 : decode cL_law 11 = .ok (.dup, 1) := by decide +kernel
theorem dL_law_12 : decode cL_law 12 = .ok (.invokespecial 50, 3) := by decide +kernel
theorem dL_law_15 : decode cL_law 15 = .ok (.astore_n 2, 1) := by decide +kernel
theorem dL_law_16 : decode cL_law 16 = .ok (.iconst 1, 1) := by decide +kernel
theorem dL_law_17 : decode cL_law 17 = .ok (.newarray .long, 2) := by decide +kernel
theorem dL_law_19 : decode cL_law 19 = .ok (.astore_n 3, 1) := by decide +kernel
theorem dL_law_20 : decode cL_law 20 = .ok (.iconst 0, 1) := by decide +kernel
theorem dL_law_21 : decode cL_law 21 = .ok (.istore 4, 2) := by decide +kernel
theorem dL_law_23 : decode cL_law 23 = .ok (.iload 4, 2) := by decide +kernel
theorem dL_law_25 : decode cL_law 25 = .ok (.aload_n 0, 1) := by decide +kernel
theorem dL_law_26 : decode cL_law 26 = .ok (.arraylength, 1) := by decide +kernel
theorem dL_law_27 : decode cL_law 27 = .ok (.bipush 6, 2) := by decide +kernel
theorem dL_law_29 : decode cL_law 29 = .ok (.isub, 1) := by decide +kernel
theorem dL_law_30 : decode cL_law 30 = .ok (.if_icmp .gt 682, 3) := by decide +kernel
theorem dL_law_33 : decode cL_law 33 = .ok (.aload_n 0, 1) := by decide +kernel
theorem dL_law_34 : decode cL_law 34 = .ok (.iload 4, 2) := by decide +kernel
theorem dL_law_36 : decode cL_law 36 = .ok (.iaload, 1) := by decide +kernel
theorem dL_law_37 : decode cL_law 37 = .ok (.bipush 15, 2) := by decide +kernel
theorem dL_law_39 : decode cL_law 39 = .ok (.iand, 1) := by decide +kernel
theorem dL_law_40 : decode cL_law 40 = .ok (.tableswitch 666 0 11 #[64, 168, 181, 194, 250, 274, 330, 386, 442, 498, 554, 610], 64) := by decide +kernel
theorem dL_law_104 : decode cL_law 104 = .ok (.aload_n 1, 1) := by decide +kernel
theorem dL_law_105 : decode cL_law 105 = .ok (.aload_n 0, 1) := by decide +kernel
theorem dL_law_106 : decode cL_law 106 = .ok (.iload 4, 2) := by decide +kernel
theorem dL_law_108 : decode cL_law 108 = .ok (.iconst 1, 1) := by decide +kernel
theorem dL_law_109 : decode cL_law 109 = .ok (.iadd, 1) := by decide +kernel
theorem dL_law_110 : decode cL_law 110 = .ok (.iaload, 1) := by decide +kernel
theorem dL_law_111 : decode cL_law 111 = .ok (.aload_n 0, 1) := by decide +kernel
theorem dL_law_112 : decode cL_law 112 = .ok (.iload 4, 2) := by decide +kernel
theorem dL_law_114 : decode cL_law 114 = .ok (.iconst 2, 1) := by decide +kernel
theorem dL_law_115 : decode cL_law 115 = .ok (.iadd, 1) := by decide +kernel
theorem dL_law_116 : decode cL_law 116 = .ok (.iaload, 1) := by decide +kernel
theorem dL_law_117 : decode cL_law 117 = .ok (.aload_n 0, 1) := by decide +kernel
theorem dL_law_118 : decode cL_law 118 = .ok (.iload 4, 2) := by decide +kernel
theorem dL_law_120 : decode cL_law 120 = .ok (.iconst 3, 1) := by decide +kernel
theorem dL_law_121 : decode cL_law 121 = .ok (.iadd, 1) := by decide +kernel
theorem dL_law_122 : decode cL_law 122 = .ok (.iaload, 1) := by decide +kernel
theorem dL_law_123 : decode cL_law 123 = .ok (.aload_n 0, 1) := by decide +kernel
theorem dL_law_124 : decode cL_law 124 = .ok (.iload 4, 2) := by decide +kernel
theorem dL_law_126 : decode cL_law 126 = .ok (.iconst 4, 1) := by decide +kernel
theorem dL_law_127 : decode cL_law 127 = .ok (.iadd, 1) := by decide +kernel
theorem dL_law_128 : decode cL_law 128 = .ok (.iaload, 1) := by decide +kernel
theorem dL_law_129 : decode cL_law 129 = .ok (.aload_n 0, 1) := by decide +kernel
theorem dL_law_130 : decode cL_law 130 = .ok (.iload 4, 2) := by decide +kernel
theorem dL_law_132 : decode cL_law 132 = .ok (.iconst 5, 1) := by decide +kernel
theorem dL_law_133 : decode cL_law 133 = .ok (.iadd, 1) := by decide +kernel
theorem dL_law_134 : decode cL_law 134 = .ok (.iaload, 1) := by decide +kernel
theorem dL_law_135 : decode cL_law 135 = .ok (.aload_n 3, 1) := by decide +kernel
theorem dL_law_136 : decode cL_law 136 = .ok (.invokestatic 51, 3) := by decide +kernel
theorem dL_law_139 : decode cL_law 139 = .ok (.istore 5, 2) := by decide +kernel
theorem dL_law_141 : decode cL_law 141 = .ok (.aload_n 2, 1) := by decide +kernel
theorem dL_law_142 : decode cL_law 142 = .ok (.aload_n 0, 1) := by decide +kernel
theorem dL_law_143 : decode cL_law 143 = .ok (.iload 4, 2) := by decide +kernel
theorem dL_law_145 : decode cL_law 145 = .ok (.iconst 1, 1) := by decide +kernel
theorem dL_law_146 : decode cL_law 146 = .ok (.iadd, 1) := by decide +kernel
theorem dL_law_147 : decode cL_law 147 = .ok (.iaload, 1) := by decide +kernel
theorem dL_law_148 : decode cL_law 148 = .ok (.aload_n 0, 1) := by decide +kernel
theorem dL_law_149 : decode cL_law 149 = .ok (.iload 4, 2) := by decide +kernel
theorem dL_law_151 : decode cL_law 151 = .ok (.iconst 2, 1) := by decide +kernel
theorem dL_law_152 : decode cL_law 152 = .ok (.iadd, 1) := by decide +kernel
theorem dL_law_153 : decode cL_law 153 = .ok (.iaload, 1) := by decide +kernel
theorem dL_law_154 : decode cL_law 154 = .ok (.aload_n 0, 1) := by decide +kernel
theorem dL_law_155 : decode cL_law 155 = .ok (.iload 4, 2) := by decide +kernel
theorem dL_law_157 : decode cL_law 157 = .ok (.iconst 3, 1) := by decide +kernel
theorem dL_law_158 : decode cL_law 158 = .ok (.iadd, 1) := by decide +kernel
theorem dL_law_159 : decode cL_law 159 = .ok (.iaload, 1) := by decide +kernel
theorem dL_law_160 : decode cL_law 160 = .ok (.aload_n 0, 1) := by decide +kernel
theorem dL_law_161 : decode cL_law 161 = .ok (.iload 4, 2) := by decide +kernel
theorem dL_law_163 : decode cL_law 163 = .ok (.iconst 4, 1) := by decide +kernel
theorem dL_law_164 : decode cL_law 164 = .ok (.iadd, 1) := by decide +kernel
theorem dL_law_165 : decode cL_law 165 = .ok (.iaload, 1) := by decide +kernel
theorem dL_law_166 : decode cL_law 166 = .ok (.aload_n 0, 1) := by decide +kernel
theorem dL_law_167 : decode cL_law 167 = .ok (.iload 4, 2) := by decide +kernel
theorem dL_law_169 : decode cL_law 169 = .ok (.iconst 5, 1) := by decide +kernel
theorem dL_law_170 : decode cL_law 170 = .ok (.iadd, 1) := by decide +kernel
theorem dL_law_171 : decode cL_law 171 = .ok (.iaload, 1) := by decide +kernel
theorem dL_law_172 : decode cL_law 172 = .ok (.invokevirtual 56, 3) := by decide +kernel
theorem dL_law_175 : decode cL_law 175 = .ok (.istore 6, 2) := by decide +kernel
theorem dL_law_177 : decode cL_law 177 = .ok (.aload_n 2, 1) := by decide +kernel
theorem dL_law_178 : decode cL_law 178 = .ok (.invokevirtual 57, 3) := by decide +kernel
theorem dL_law_181 : decode cL_law 181 = .ok (.iload 5, 2) := by decide +kernel
theorem dL_law_183 : decode cL_law 183 = .ok (.if_icmp .eq 5, 3) := by decide +kernel
theorem dL_law_186 : decode cL_law 186 = .ok (.iconst 0, 1) := by decide +kernel
theorem dL_law_187 : decode cL_law 187 = .ok (.ireturn, 1) := by decide +kernel
theorem dL_law_188 : decode cL_law 188 = .ok (.iload 5, 2) := by decide +kernel
theorem dL_law_190 : decode cL_law 190 = .ok (.ifCond .ne 15, 3) := by decide +kernel
theorem dL_law_193 : decode cL_law 193 = .ok (.aload_n 3, 1) := by decide +kernel
theorem dL_law_194 : decode cL_law 194 = .ok (.iconst 0, 1) := by decide +kernel
theorem dL_law_195 : decode cL_law 195 = .ok (.laload, 1) := by decide +kernel
theorem dL_law_196 : decode cL_law 196 = .ok (.iload 6, 2) := by decide +kernel
theorem dL_law_198 : decode cL_law 198 = .ok (.i2l, 1) := by decide +kernel
theorem dL_law_199 : decode cL_law 199 = .ok (.lcmp, 1) := by decide +kernel
theorem dL_law_200 : decode cL_law 200 = .ok (.ifCond .eq 5, 3) := by decide +kernel
theorem dL_law_203 : decode cL_law 203 = .ok (.iconst 0, 1) := by decide +kernel
theorem dL_law_204 : decode cL_law 204 = .ok (.ireturn, 1) := by decide +kernel
theorem dL_law_205 : decode cL_law 205 = .ok (.goto 501, 3) := by decide +kernel
theorem dL_law_208 : decode cL_law 208 = .ok (.aload_n 1, 1) := by decide +kernel
theorem dL_law_209 : decode cL_law 209 = .ok (.invokevirtual 61, 3) := by decide +kernel
theorem dL_law_212 : decode cL_law 212 = .ok (.aload_n 2, 1) := by decide +kernel
theorem dL_law_213 : decode cL_law 213 = .ok (.invokevirtual 64, 3) := by decide +kernel
theorem dL_law_216 : decode cL_law 216 = .ok (.if_icmp .eq 490, 3) := by decide +kernel
theorem dL_law_219 : decode cL_law 219 = .ok (.iconst 0, 1) := by decide +kernel
theorem dL_law_220 : decode cL_law 220 = .ok (.ireturn, 1) := by decide +kernel
theorem dL_law_221 : decode cL_law 221 = .ok (.aload_n 1, 1) := by decide +kernel
theorem dL_law_222 : decode cL_law 222 = .ok (.invokevirtual 65, 3) := by decide +kernel
theorem dL_law_225 : decode cL_law 225 = .ok (.aload_n 2, 1) := by decide +kernel
theorem dL_law_226 : decode cL_law 226 = .ok (.invokevirtual 68, 3) := by decide +kernel
theorem dL_law_229 : decode cL_law 229 = .ok (.if_icmp .eq 477, 3) := by decide +kernel
theorem dL_law_232 : decode cL_law 232 = .ok (.iconst 0, 1) := by decide +kernel
theorem dL_law_233 : decode cL_law 233 = .ok (.ireturn, 1) := by decide +kernel
theorem dL_law_234 : decode cL_law 234 = .ok (.aload_n 1, 1) := by decide +kernel
theorem dL_law_235 : decode cL_law 235 = .ok (.aload_n 0, 1) := by decide +kernel
theorem dL_law_236 : decode cL_law 236 = .ok (.iload 4, 2) := by decide +kernel
theorem dL_law_238 : decode cL_law 238 = .ok (.iconst 1, 1) := by decide +kernel
theorem dL_law_239 : decode cL_law 239 = .ok (.iadd, 1) := by decide +kernel
theorem dL_law_240 : decode cL_law 240 = .ok (.iaload, 1) := by decide +kernel
theorem dL_law_241 : decode cL_law 241 = .ok (.aload_n 3, 1) := by decide +kernel
theorem dL_law_242 : decode cL_law 242 = .ok (.invokestatic 69, 3) := by decide +kernel
theorem dL_law_245 : decode cL_law 245 = .ok (.istore 5, 2) := by decide +kernel
theorem dL_law_247 : decode cL_law 247 = .ok (.aload_n 2, 1) := by decide +kernel
theorem dL_law_248 : decode cL_law 248 = .ok (.aload_n 0, 1) := by decide +kernel
theorem dL_law_249 : decode cL_law 249 = .ok (.iload 4, 2) := by decide +kernel
theorem dL_law_251 : decode cL_law 251 = .ok (.iconst 1, 1) := by decide +kernel
theorem dL_law_252 : decode cL_law 252 = .ok (.iadd, 1) := by decide +kernel
theorem dL_law_253 : decode cL_law 253 = .ok (.iaload, 1) := by decide +kernel
theorem dL_law_254 : decode cL_law 254 = .ok (.invokevirtual 72, 3) := by decide +kernel
theorem dL_law_257 : decode cL_law 257 = .ok (.istore 6, 2) := by decide +kernel
theorem dL_law_259 : decode cL_law 259 = .ok (.aload_n 2, 1) := by decide +kernel
theorem dL_law_260 : decode cL_law 260 = .ok (.invokevirtual 57, 3) := by decide +kernel
theorem dL_law_263 : decode cL_law 263 = .ok (.iload 5, 2) := by decide +kernel
theorem dL_law_265 : decode cL_law 265 = .ok (.if_icmp .eq 5, 3) := by decide +kernel
theorem dL_law_268 : decode cL_law 268 = .ok (.iconst 0, 1) := by decide +kernel
theorem dL_law_269 : decode cL_law 269 = .ok (.ireturn, 1) := by decide +kernel
theorem dL_law_270 : decode cL_law 270 = .ok (.iload 5, 2) := by decide +kernel
theorem dL_law_272 : decode cL_law 272 = .ok (.ifCond .ne 15, 3) := by decide +kernel
theorem dL_law_275 : decode cL_law 275 = .ok (.aload_n 3, 1) := by decide +kernel
theorem dL_law_276 : decode cL_law 276 = .ok (.iconst 0, 1) := by decide +kernel
theorem dL_law_277 : decode cL_law 277 = .ok (.laload, 1) := by decide +kernel
theorem dL_law_278 : decode cL_law 278 = .ok (.iload 6, 2) := by decide +kernel
theorem dL_law_280 : decode cL_law 280 = .ok (.i2l, 1) := by decide +kernel
theorem dL_law_281 : decode cL_law 281 = .ok (.lcmp, 1) := by decide +kernel
theorem dL_law_282 : decode cL_law 282 = .ok (.ifCond .eq 5, 3) := by decide +kernel
theorem dL_law_285 : decode cL_law 285 = .ok (.iconst 0, 1) := by decide +kernel
theorem dL_law_286 : decode cL_law 286 = .ok (.ireturn, 1) := by decide +kernel
theorem dL_law_287 : decode cL_law 287 = .ok (.goto 419, 3) := by decide +kernel
theorem dL_law_290 : decode cL_law 290 = .ok (.aload_n 1, 1) := by decide +kernel
theorem dL_law_291 : decode cL_law 291 = .ok (.invokestatic 73, 3) := by decide +kernel
theorem dL_law_294 : decode cL_law 294 = .ok (.istore 5, 2) := by decide +kernel
theorem dL_law_296 : decode cL_law 296 = .ok (.aload_n 2, 1) := by decide +kernel
theorem dL_law_297 : decode cL_law 297 = .ok (.invokevirtual 76, 3) := by decide +kernel
theorem dL_law_300 : decode cL_law 300 = .ok (.aload_n 2, 1) := by decide +kernel
theorem dL_law_301 : decode cL_law 301 = .ok (.invokevirtual 57, 3) := by decide +kernel
theorem dL_law_304 : decode cL_law 304 = .ok (.iload 5, 2) := by decide +kernel
theorem dL_law_306 : decode cL_law 306 = .ok (.if_icmp .eq 5, 3) := by decide +kernel
theorem dL_law_309 : decode cL_law 309 = .ok (.iconst 0, 1) := by decide +kernel
theorem dL_law_310 : decode cL_law 310 = .ok (.ireturn, 1) := by decide +kernel
theorem dL_law_311 : decode cL_law 311 = .ok (.goto 395, 3) := by decide +kernel
theorem dL_law_314 : decode cL_law 314 = .ok (.aload_n 1, 1) := by decide +kernel
theorem dL_law_315 : decode cL_law 315 = .ok (.aload_n 0, 1) := by decide +kernel
theorem dL_law_316 : decode cL_law 316 = .ok (.iload 4, 2) := by decide +kernel
theorem dL_law_318 : decode cL_law 318 = .ok (.iconst 1, 1) := by decide +kernel
theorem dL_law_319 : decode cL_law 319 = .ok (.iadd, 1) := by decide +kernel
theorem dL_law_320 : decode cL_law 320 = .ok (.iaload, 1) := by decide +kernel
theorem dL_law_321 : decode cL_law 321 = .ok (.aload_n 3, 1) := by decide +kernel
theorem dL_law_322 : decode cL_law 322 = .ok (.invokestatic 77, 3) := by decide +kernel
theorem dL_law_325 : decode cL_law 325 = .ok (.istore 5, 2) := by decide +kernel
theorem dL_law_327 : decode cL_law 327 = .ok (.aload_n 2, 1) := by decide +kernel
theorem dL_law_328 : decode cL_law 328 = .ok (.aload_n 0, 1) := by decide +kernel
theorem dL_law_329 : decode cL_law 329 = .ok (.iload 4, 2) := by decide +kernel
theorem dL_law_331 : decode cL_law 331 = .ok (.iconst 1, 1) := by decide +kernel
theorem dL_law_332 : decode cL_law 332 = .ok (.iadd, 1) := by decide +kernel
theorem dL_law_333 : decode cL_law 333 = .ok (.iaload, 1) := by decide +kernel
theorem dL_law_334 : decode cL_law 334 = .ok (.invokevirtual 79, 3) := by decide +kernel
theorem dL_law_337 : decode cL_law 337 = .ok (.istore 6, 2) := by decide +kernel
theorem dL_law_339 : decode cL_law 339 = .ok (.aload_n 2, 1) := by decide +kernel
theorem dL_law_340 : decode cL_law 340 = .ok (.invokevirtual 57, 3) := by decide +kernel
theorem dL_law_343 : decode cL_law 343 = .ok (.iload 5, 2) := by decide +kernel
theorem dL_law_345 : decode cL_law 345 = .ok (.if_icmp .eq 5, 3) := by decide +kernel
theorem dL_law_348 : decode cL_law 348 = .ok (.iconst 0, 1) := by decide +kernel
theorem dL_law_349 : decode cL_law 349 = .ok (.ireturn, 1) := by decide +kernel
theorem dL_law_350 : decode cL_law 350 = .ok (.iload 5, 2) := by decide +kernel
theorem dL_law_352 : decode cL_law 352 = .ok (.ifCond .ne 15, 3) := by decide +kernel
theorem dL_law_355 : decode cL_law 355 = .ok (.aload_n 3, 1) := by decide +kernel
theorem dL_law_356 : decode cL_law 356 = .ok (.iconst 0, 1) := by decide +kernel
theorem dL_law_357 : decode cL_law 357 = .ok (.laload, 1) := by decide +kernel
theorem dL_law_358 : decode cL_law 358 = .ok (.iload 6, 2) := by decide +kernel
theorem dL_law_360 : decode cL_law 360 = .ok (.i2l, 1) := by decide +kernel
theorem dL_law_361 : decode cL_law 361 = .ok (.lcmp, 1) := by decide +kernel
theorem dL_law_362 : decode cL_law 362 = .ok (.ifCond .eq 5, 3) := by decide +kernel
theorem dL_law_365 : decode cL_law 365 = .ok (.iconst 0, 1) := by decide +kernel
theorem dL_law_366 : decode cL_law 366 = .ok (.ireturn, 1) := by decide +kernel
theorem dL_law_367 : decode cL_law 367 = .ok (.goto 339, 3) := by decide +kernel
theorem dL_law_370 : decode cL_law 370 = .ok (.aload_n 1, 1) := by decide +kernel
theorem dL_law_371 : decode cL_law 371 = .ok (.aload_n 0, 1) := by decide +kernel
theorem dL_law_372 : decode cL_law 372 = .ok (.iload 4, 2) := by decide +kernel
theorem dL_law_374 : decode cL_law 374 = .ok (.iconst 1, 1) := by decide +kernel
theorem dL_law_375 : decode cL_law 375 = .ok (.iadd, 1) := by decide +kernel
theorem dL_law_376 : decode cL_law 376 = .ok (.iaload, 1) := by decide +kernel
theorem dL_law_377 : decode cL_law 377 = .ok (.aload_n 3, 1) := by decide +kernel
theorem dL_law_378 : decode cL_law 378 = .ok (.invokestatic 80, 3) := by decide +kernel
theorem dL_law_381 : decode cL_law 381 = .ok (.istore 5, 2) := by decide +kernel
theorem dL_law_383 : decode cL_law 383 = .ok (.aload_n 2, 1) := by decide +kernel
theorem dL_law_384 : decode cL_law 384 = .ok (.aload_n 0, 1) := by decide +kernel
theorem dL_law_385 : decode cL_law 385 = .ok (.iload 4, 2) := by decide +kernel
theorem dL_law_387 : decode cL_law 387 = .ok (.iconst 1, 1) := by decide +kernel
theorem dL_law_388 : decode cL_law 388 = .ok (.iadd, 1) := by decide +kernel
theorem dL_law_389 : decode cL_law 389 = .ok (.iaload, 1) := by decide +kernel
theorem dL_law_390 : decode cL_law 390 = .ok (.invokevirtual 82, 3) := by decide +kernel
theorem dL_law_393 : decode cL_law 393 = .ok (.istore 6, 2) := by decide +kernel
theorem dL_law_395 : decode cL_law 395 = .ok (.aload_n 2, 1) := by decide +kernel
theorem dL_law_396 : decode cL_law 396 = .ok (.invokevirtual 57, 3) := by decide +kernel
theorem dL_law_399 : decode cL_law 399 = .ok (.iload 5, 2) := by decide +kernel
theorem dL_law_401 : decode cL_law 401 = .ok (.if_icmp .eq 5, 3) := by decide +kernel
theorem dL_law_404 : decode cL_law 404 = .ok (.iconst 0, 1) := by decide +kernel
theorem dL_law_405 : decode cL_law 405 = .ok (.ireturn, 1) := by decide +kernel
theorem dL_law_406 : decode cL_law 406 = .ok (.iload 5, 2) := by decide +kernel
theorem dL_law_408 : decode cL_law 408 = .ok (.ifCond .ne 15, 3) := by decide +kernel
theorem dL_law_411 : decode cL_law 411 = .ok (.aload_n 3, 1) := by decide +kernel
theorem dL_law_412 : decode cL_law 412 = .ok (.iconst 0, 1) := by decide +kernel
theorem dL_law_413 : decode cL_law 413 = .ok (.laload, 1) := by decide +kernel
theorem dL_law_414 : decode cL_law 414 = .ok (.iload 6, 2) := by decide +kernel
theorem dL_law_416 : decode cL_law 416 = .ok (.i2l, 1) := by decide +kernel
theorem dL_law_417 : decode cL_law 417 = .ok (.lcmp, 1) := by decide +kernel
theorem dL_law_418 : decode cL_law 418 = .ok (.ifCond .eq 5, 3) := by decide +kernel
theorem dL_law_421 : decode cL_law 421 = .ok (.iconst 0, 1) := by decide +kernel
theorem dL_law_422 : decode cL_law 422 = .ok (.ireturn, 1) := by decide +kernel
theorem dL_law_423 : decode cL_law 423 = .ok (.goto 283, 3) := by decide +kernel
theorem dL_law_426 : decode cL_law 426 = .ok (.aload_n 1, 1) := by decide +kernel
theorem dL_law_427 : decode cL_law 427 = .ok (.aload_n 0, 1) := by decide +kernel
theorem dL_law_428 : decode cL_law 428 = .ok (.iload 4, 2) := by decide +kernel
theorem dL_law_430 : decode cL_law 430 = .ok (.iconst 1, 1) := by decide +kernel
theorem dL_law_431 : decode cL_law 431 = .ok (.iadd, 1) := by decide +kernel
theorem dL_law_432 : decode cL_law 432 = .ok (.iaload, 1) := by decide +kernel
theorem dL_law_433 : decode cL_law 433 = .ok (.aload_n 3, 1) := by decide +kernel
theorem dL_law_434 : decode cL_law 434 = .ok (.invokestatic 83, 3) := by decide +kernel
theorem dL_law_437 : decode cL_law 437 = .ok (.istore 5, 2) := by decide +kernel
theorem dL_law_439 : decode cL_law 439 = .ok (.aload_n 2, 1) := by decide +kernel
theorem dL_law_440 : decode cL_law 440 = .ok (.aload_n 0, 1) := by decide +kernel
theorem dL_law_441 : decode cL_law 441 = .ok (.iload 4, 2) := by decide +kernel
theorem dL_law_443 : decode cL_law 443 = .ok (.iconst 1, 1) := by decide +kernel
theorem dL_law_444 : decode cL_law 444 = .ok (.iadd, 1) := by decide +kernel
theorem dL_law_445 : decode cL_law 445 = .ok (.iaload, 1) := by decide +kernel
theorem dL_law_446 : decode cL_law 446 = .ok (.invokevirtual 85, 3) := by decide +kernel
theorem dL_law_449 : decode cL_law 449 = .ok (.istore 6, 2) := by decide +kernel
theorem dL_law_451 : decode cL_law 451 = .ok (.aload_n 2, 1) := by decide +kernel
theorem dL_law_452 : decode cL_law 452 = .ok (.invokevirtual 57, 3) := by decide +kernel
theorem dL_law_455 : decode cL_law 455 = .ok (.iload 5, 2) := by decide +kernel
theorem dL_law_457 : decode cL_law 457 = .ok (.if_icmp .eq 5, 3) := by decide +kernel
theorem dL_law_460 : decode cL_law 460 = .ok (.iconst 0, 1) := by decide +kernel
theorem dL_law_461 : decode cL_law 461 = .ok (.ireturn, 1) := by decide +kernel
theorem dL_law_462 : decode cL_law 462 = .ok (.iload 5, 2) := by decide +kernel
theorem dL_law_464 : decode cL_law 464 = .ok (.ifCond .ne 15, 3) := by decide +kernel
theorem dL_law_467 : decode cL_law 467 = .ok (.aload_n 3, 1) := by decide +kernel
theorem dL_law_468 : decode cL_law 468 = .ok (.iconst 0, 1) := by decide +kernel
theorem dL_law_469 : decode cL_law 469 = .ok (.laload, 1) := by decide +kernel
theorem dL_law_470 : decode cL_law 470 = .ok (.iload 6, 2) := by decide +kernel
theorem dL_law_472 : decode cL_law 472 = .ok (.i2l, 1) := by decide +kernel
theorem dL_law_473 : decode cL_law 473 = .ok (.lcmp, 1) := by decide +kernel
theorem dL_law_474 : decode cL_law 474 = .ok (.ifCond .eq 5, 3) := by decide +kernel
theorem dL_law_477 : decode cL_law 477 = .ok (.iconst 0, 1) := by decide +kernel
theorem dL_law_478 : decode cL_law 478 = .ok (.ireturn, 1) := by decide +kernel
theorem dL_law_479 : decode cL_law 479 = .ok (.goto 227, 3) := by decide +kernel
theorem dL_law_482 : decode cL_law 482 = .ok (.aload_n 1, 1) := by decide +kernel
theorem dL_law_483 : decode cL_law 483 = .ok (.aload_n 0, 1) := by decide +kernel
theorem dL_law_484 : decode cL_law 484 = .ok (.iload 4, 2) := by decide +kernel
theorem dL_law_486 : decode cL_law 486 = .ok (.iconst 1, 1) := by decide +kernel
theorem dL_law_487 : decode cL_law 487 = .ok (.iadd, 1) := by decide +kernel
theorem dL_law_488 : decode cL_law 488 = .ok (.iaload, 1) := by decide +kernel
theorem dL_law_489 : decode cL_law 489 = .ok (.aload_n 3, 1) := by decide +kernel
theorem dL_law_490 : decode cL_law 490 = .ok (.invokestatic 86, 3) := by decide +kernel
theorem dL_law_493 : decode cL_law 493 = .ok (.istore 5, 2) := by decide +kernel
theorem dL_law_495 : decode cL_law 495 = .ok (.aload_n 2, 1) := by decide +kernel
theorem dL_law_496 : decode cL_law 496 = .ok (.aload_n 0, 1) := by decide +kernel
theorem dL_law_497 : decode cL_law 497 = .ok (.iload 4, 2) := by decide +kernel
theorem dL_law_499 : decode cL_law 499 = .ok (.iconst 1, 1) := by decide +kernel
theorem dL_law_500 : decode cL_law 500 = .ok (.iadd, 1) := by decide +kernel
theorem dL_law_501 : decode cL_law 501 = .ok (.iaload, 1) := by decide +kernel
theorem dL_law_502 : decode cL_law 502 = .ok (.invokevirtual 88, 3) := by decide +kernel
theorem dL_law_505 : decode cL_law 505 = .ok (.istore 6, 2) := by decide +kernel
theorem dL_law_507 : decode cL_law 507 = .ok (.aload_n 2, 1) := by decide +kernel
theorem dL_law_508 : decode cL_law 508 = .ok (.invokevirtual 57, 3) := by decide +kernel
theorem dL_law_511 : decode cL_law 511 = .ok (.iload 5, 2) := by decide +kernel
theorem dL_law_513 : decode cL_law 513 = .ok (.if_icmp .eq 5, 3) := by decide +kernel
theorem dL_law_516 : decode cL_law 516 = .ok (.iconst 0, 1) := by decide +kernel
theorem dL_law_517 : decode cL_law 517 = .ok (.ireturn, 1) := by decide +kernel
theorem dL_law_518 : decode cL_law 518 = .ok (.iload 5, 2) := by decide +kernel
theorem dL_law_520 : decode cL_law 520 = .ok (.ifCond .ne 15, 3) := by decide +kernel
theorem dL_law_523 : decode cL_law 523 = .ok (.aload_n 3, 1) := by decide +kernel
theorem dL_law_524 : decode cL_law 524 = .ok (.iconst 0, 1) := by decide +kernel
theorem dL_law_525 : decode cL_law 525 = .ok (.laload, 1) := by decide +kernel
theorem dL_law_526 : decode cL_law 526 = .ok (.iload 6, 2) := by decide +kernel
theorem dL_law_528 : decode cL_law 528 = .ok (.i2l, 1) := by decide +kernel
theorem dL_law_529 : decode cL_law 529 = .ok (.lcmp, 1) := by decide +kernel
theorem dL_law_530 : decode cL_law 530 = .ok (.ifCond .eq 5, 3) := by decide +kernel
theorem dL_law_533 : decode cL_law 533 = .ok (.iconst 0, 1) := by decide +kernel
theorem dL_law_534 : decode cL_law 534 = .ok (.ireturn, 1) := by decide +kernel
theorem dL_law_535 : decode cL_law 535 = .ok (.goto 171, 3) := by decide +kernel
theorem dL_law_538 : decode cL_law 538 = .ok (.aload_n 1, 1) := by decide +kernel
theorem dL_law_539 : decode cL_law 539 = .ok (.aload_n 0, 1) := by decide +kernel
theorem dL_law_540 : decode cL_law 540 = .ok (.iload 4, 2) := by decide +kernel
theorem dL_law_542 : decode cL_law 542 = .ok (.iconst 1, 1) := by decide +kernel
theorem dL_law_543 : decode cL_law 543 = .ok (.iadd, 1) := by decide +kernel
theorem dL_law_544 : decode cL_law 544 = .ok (.iaload, 1) := by decide +kernel
theorem dL_law_545 : decode cL_law 545 = .ok (.aload_n 3, 1) := by decide +kernel
theorem dL_law_546 : decode cL_law 546 = .ok (.invokestatic 89, 3) := by decide +kernel
theorem dL_law_549 : decode cL_law 549 = .ok (.istore 5, 2) := by decide +kernel
theorem dL_law_551 : decode cL_law 551 = .ok (.aload_n 2, 1) := by decide +kernel
theorem dL_law_552 : decode cL_law 552 = .ok (.aload_n 0, 1) := by decide +kernel
theorem dL_law_553 : decode cL_law 553 = .ok (.iload 4, 2) := by decide +kernel
theorem dL_law_555 : decode cL_law 555 = .ok (.iconst 1, 1) := by decide +kernel
theorem dL_law_556 : decode cL_law 556 = .ok (.iadd, 1) := by decide +kernel
theorem dL_law_557 : decode cL_law 557 = .ok (.iaload, 1) := by decide +kernel
theorem dL_law_558 : decode cL_law 558 = .ok (.invokevirtual 91, 3) := by decide +kernel
theorem dL_law_561 : decode cL_law 561 = .ok (.istore 6, 2) := by decide +kernel
theorem dL_law_563 : decode cL_law 563 = .ok (.aload_n 2, 1) := by decide +kernel
theorem dL_law_564 : decode cL_law 564 = .ok (.invokevirtual 57, 3) := by decide +kernel
theorem dL_law_567 : decode cL_law 567 = .ok (.iload 5, 2) := by decide +kernel
theorem dL_law_569 : decode cL_law 569 = .ok (.if_icmp .eq 5, 3) := by decide +kernel
theorem dL_law_572 : decode cL_law 572 = .ok (.iconst 0, 1) := by decide +kernel
theorem dL_law_573 : decode cL_law 573 = .ok (.ireturn, 1) := by decide +kernel
theorem dL_law_574 : decode cL_law 574 = .ok (.iload 5, 2) := by decide +kernel
theorem dL_law_576 : decode cL_law 576 = .ok (.ifCond .ne 15, 3) := by decide +kernel
theorem dL_law_579 : decode cL_law 579 = .ok (.aload_n 3, 1) := by decide +kernel
theorem dL_law_580 : decode cL_law 580 = .ok (.iconst 0, 1) := by decide +kernel
theorem dL_law_581 : decode cL_law 581 = .ok (.laload, 1) := by decide +kernel
theorem dL_law_582 : decode cL_law 582 = .ok (.iload 6, 2) := by decide +kernel
theorem dL_law_584 : decode cL_law 584 = .ok (.i2l, 1) := by decide +kernel
theorem dL_law_585 : decode cL_law 585 = .ok (.lcmp, 1) := by decide +kernel
theorem dL_law_586 : decode cL_law 586 = .ok (.ifCond .eq 5, 3) := by decide +kernel
theorem dL_law_589 : decode cL_law 589 = .ok (.iconst 0, 1) := by decide +kernel
theorem dL_law_590 : decode cL_law 590 = .ok (.ireturn, 1) := by decide +kernel
theorem dL_law_591 : decode cL_law 591 = .ok (.goto 115, 3) := by decide +kernel
theorem dL_law_594 : decode cL_law 594 = .ok (.aload_n 1, 1) := by decide +kernel
theorem dL_law_595 : decode cL_law 595 = .ok (.aload_n 0, 1) := by decide +kernel
theorem dL_law_596 : decode cL_law 596 = .ok (.iload 4, 2) := by decide +kernel
theorem dL_law_598 : decode cL_law 598 = .ok (.iconst 1, 1) := by decide +kernel
theorem dL_law_599 : decode cL_law 599 = .ok (.iadd, 1) := by decide +kernel
theorem dL_law_600 : decode cL_law 600 = .ok (.iaload, 1) := by decide +kernel
theorem dL_law_601 : decode cL_law 601 = .ok (.aload_n 3, 1) := by decide +kernel
theorem dL_law_602 : decode cL_law 602 = .ok (.invokestatic 92, 3) := by decide +kernel
theorem dL_law_605 : decode cL_law 605 = .ok (.istore 5, 2) := by decide +kernel
theorem dL_law_607 : decode cL_law 607 = .ok (.aload_n 2, 1) := by decide +kernel
theorem dL_law_608 : decode cL_law 608 = .ok (.aload_n 0, 1) := by decide +kernel
theorem dL_law_609 : decode cL_law 609 = .ok (.iload 4, 2) := by decide +kernel
theorem dL_law_611 : decode cL_law 611 = .ok (.iconst 1, 1) := by decide +kernel
theorem dL_law_612 : decode cL_law 612 = .ok (.iadd, 1) := by decide +kernel
theorem dL_law_613 : decode cL_law 613 = .ok (.iaload, 1) := by decide +kernel
theorem dL_law_614 : decode cL_law 614 = .ok (.invokevirtual 94, 3) := by decide +kernel
theorem dL_law_617 : decode cL_law 617 = .ok (.istore 6, 2) := by decide +kernel
theorem dL_law_619 : decode cL_law 619 = .ok (.aload_n 2, 1) := by decide +kernel
theorem dL_law_620 : decode cL_law 620 = .ok (.invokevirtual 57, 3) := by decide +kernel
theorem dL_law_623 : decode cL_law 623 = .ok (.iload 5, 2) := by decide +kernel
theorem dL_law_625 : decode cL_law 625 = .ok (.if_icmp .eq 5, 3) := by decide +kernel
theorem dL_law_628 : decode cL_law 628 = .ok (.iconst 0, 1) := by decide +kernel
theorem dL_law_629 : decode cL_law 629 = .ok (.ireturn, 1) := by decide +kernel
theorem dL_law_630 : decode cL_law 630 = .ok (.iload 5, 2) := by decide +kernel
theorem dL_law_632 : decode cL_law 632 = .ok (.ifCond .ne 15, 3) := by decide +kernel
theorem dL_law_635 : decode cL_law 635 = .ok (.aload_n 3, 1) := by decide +kernel
theorem dL_law_636 : decode cL_law 636 = .ok (.iconst 0, 1) := by decide +kernel
theorem dL_law_637 : decode cL_law 637 = .ok (.laload, 1) := by decide +kernel
theorem dL_law_638 : decode cL_law 638 = .ok (.iload 6, 2) := by decide +kernel
theorem dL_law_640 : decode cL_law 640 = .ok (.i2l, 1) := by decide +kernel
theorem dL_law_641 : decode cL_law 641 = .ok (.lcmp, 1) := by decide +kernel
theorem dL_law_642 : decode cL_law 642 = .ok (.ifCond .eq 5, 3) := by decide +kernel
theorem dL_law_645 : decode cL_law 645 = .ok (.iconst 0, 1) := by decide +kernel
theorem dL_law_646 : decode cL_law 646 = .ok (.ireturn, 1) := by decide +kernel
theorem dL_law_647 : decode cL_law 647 = .ok (.goto 59, 3) := by decide +kernel
theorem dL_law_650 : decode cL_law 650 = .ok (.aload_n 1, 1) := by decide +kernel
theorem dL_law_651 : decode cL_law 651 = .ok (.aload_n 0, 1) := by decide +kernel
theorem dL_law_652 : decode cL_law 652 = .ok (.iload 4, 2) := by decide +kernel
theorem dL_law_654 : decode cL_law 654 = .ok (.iconst 1, 1) := by decide +kernel
theorem dL_law_655 : decode cL_law 655 = .ok (.iadd, 1) := by decide +kernel
theorem dL_law_656 : decode cL_law 656 = .ok (.iaload, 1) := by decide +kernel
theorem dL_law_657 : decode cL_law 657 = .ok (.aload_n 3, 1) := by decide +kernel
theorem dL_law_658 : decode cL_law 658 = .ok (.invokestatic 95, 3) := by decide +kernel
theorem dL_law_661 : decode cL_law 661 = .ok (.istore 5, 2) := by decide +kernel
theorem dL_law_663 : decode cL_law 663 = .ok (.aload_n 2, 1) := by decide +kernel
theorem dL_law_664 : decode cL_law 664 = .ok (.aload_n 0, 1) := by decide +kernel
theorem dL_law_665 : decode cL_law 665 = .ok (.iload 4, 2) := by decide +kernel
theorem dL_law_667 : decode cL_law 667 = .ok (.iconst 1, 1) := by decide +kernel
theorem dL_law_668 : decode cL_law 668 = .ok (.iadd, 1) := by decide +kernel
theorem dL_law_669 : decode cL_law 669 = .ok (.iaload, 1) := by decide +kernel
theorem dL_law_670 : decode cL_law 670 = .ok (.invokevirtual 97, 3) := by decide +kernel
theorem dL_law_673 : decode cL_law 673 = .ok (.istore 6, 2) := by decide +kernel
theorem dL_law_675 : decode cL_law 675 = .ok (.aload_n 2, 1) := by decide +kernel
theorem dL_law_676 : decode cL_law 676 = .ok (.invokevirtual 57, 3) := by decide +kernel
theorem dL_law_679 : decode cL_law 679 = .ok (.iload 5, 2) := by decide +kernel
theorem dL_law_681 : decode cL_law 681 = .ok (.if_icmp .eq 5, 3) := by decide +kernel
theorem dL_law_684 : decode cL_law 684 = .ok (.iconst 0, 1) := by decide +kernel
theorem dL_law_685 : decode cL_law 685 = .ok (.ireturn, 1) := by decide +kernel
theorem dL_law_686 : decode cL_law 686 = .ok (.iload 5, 2) := by decide +kernel
theorem dL_law_688 : decode cL_law 688 = .ok (.ifCond .ne 15, 3) := by decide +kernel
theorem dL_law_691 : decode cL_law 691 = .ok (.aload_n 3, 1) := by decide +kernel
theorem dL_law_692 : decode cL_law 692 = .ok (.iconst 0, 1) := by decide +kernel
theorem dL_law_693 : decode cL_law 693 = .ok (.laload, 1) := by decide +kernel
theorem dL_law_694 : decode cL_law 694 = .ok (.iload 6, 2) := by decide +kernel
theorem dL_law_696 : decode cL_law 696 = .ok (.i2l, 1) := by decide +kernel
theorem dL_law_697 : decode cL_law 697 = .ok (.lcmp, 1) := by decide +kernel
theorem dL_law_698 : decode cL_law 698 = .ok (.ifCond .eq 5, 3) := by decide +kernel
theorem dL_law_701 : decode cL_law 701 = .ok (.iconst 0, 1) := by decide +kernel
theorem dL_law_702 : decode cL_law 702 = .ok (.ireturn, 1) := by decide +kernel
theorem dL_law_703 : decode cL_law 703 = .ok (.goto 3, 3) := by decide +kernel
theorem dL_law_706 : decode cL_law 706 = .ok (.iinc 4 6, 3) := by decide +kernel
theorem dL_law_709 : decode cL_law 709 = .ok (.goto (-686), 3) := by decide +kernel
theorem dL_law_712 : decode cL_law 712 = .ok (.iconst 1, 1) := by decide +kernel
theorem dL_law_713 : decode cL_law 713 = .ok (.ireturn, 1) := by decide +kernel
set_option maxRecDepth 20000 in
set_option maxHeartbeats 4000000 in
theorem law_feed {p : Program} {l : Launch} {e : Env} {s : State} {m : MethodId} {below : List Frame} {meth : Method} {c : Code} {H : Heap} {locs : List Loc} {cells slots : Nat} {ls : Array Slot} {G Gm : GG} {cJ : ClassId} {o b L i lim : Nat} {xs : Nat → Int32} {σ τ : S9} {f : Nat → Int64} (hC : LEv G Gm cJ o l p s m meth c b L xs) (hi : i + 6 ≤ L) (hL : L ≤ 3072) (hlim : lim + 1000 < 1000000) (hR : RR σ τ lim) (hw : LH G Gm cJ o σ τ f s H locs) (hcs : cells + 1 ≤ 1104 ∧ slots + 6 ≤ 57197) (hl : lv_has ls 7 [(0, .ref b), (1, .ref (gAd G 0)), (2, .ref (gAd Gm 0)), (3, .ref o), (4, .int (nI i))])
    (hK : ∀ (σ τ : S9) (f : Nat → Int64) (H : Heap) (locs : List Loc) (ls : Array Slot), RR σ τ (lim + 1000) → LH G Gm cJ o σ τ f s H locs → lv_has ls 7 [(0, .ref b), (1, .ref (gAd G 0)), (2, .ref (gAd Gm 0)), (3, .ref o), (4, .int (nI i))] → W p l e room_1 s m #[Value.ref b] below meth c H locs (cells + 1) (slots + 6) (lw_Z below #[Value.ref b] s) (F0 m 706 ls [])) : W p l e room_1 s m #[Value.ref b] below meth c H locs cells slots (lw_Z below #[Value.ref b] s) (F0 m 104 ls []) := by
  obtain ⟨-, -, -, hml, -, -, hX, hbl, -, -⟩ := hC.1.1
  have hbA : ¬ LR s b := Nat.not_le.mpr hbl
  have hcs0 : cells ≤ 1104 ∧ slots ≤ 57197 := ⟨by omega, by omega⟩
  have hin1 : vp_in (nI i + 1) L := lin hi hL (by decide)
  have hin2 : vp_in (nI i + 2) L := lin hi hL (by decide)
  have hin3 : vp_in (nI i + 3) L := lin hi hL (by decide)
  have hin4 : vp_in (nI i + 4) L := lin hi hL (by decide)
  have hin5 : vp_in (nI i + 5) L := lin hi hL (by decide)
  obtain ⟨k, bb, σ', τ', f', hRR, hk0, hkb, hw1, hm1⟩ := okc_use (k_feed (xs (nI i + 1).toNatClampNeg) (xs (nI i + 2).toNatClampNeg) (xs (nI i + 3).toNatClampNeg) (xs (nI i + 4).toNatClampNeg) (xs (nI i + 5).toNatClampNeg) hR) f
  have hRR := RR_lim hRR (Nat.le_add_right lim 1000)
  refine lv_aload_n hC.2.1.1 hC.2.1.2.1 dL_law_104 rfl (lv_at hl 1 rfl) ?_
  refine lv_aload_n hC.2.1.1 hC.2.1.2.1 dL_law_105 rfl (lv_at hl 0 rfl) ?_
  refine lv_iload hC.2.1.1 hC.2.1.2.1 dL_law_106 (lv_at hl 4 rfl) ?_
  refine lv_iconst (v := 1) hC.2.1.1 hC.2.1.2.1 dL_law_108 (by decide) ?_
  refine lv_iadd hC.2.1.1 hC.2.1.2.1 dL_law_109 ?_
  refine va_sld hC.2.1.1 hC.2.1.2.1 hX hbl hbA hw.2.2.2 hin1 dL_law_110 ?_
  refine lv_aload_n hC.2.1.1 hC.2.1.2.1 dL_law_111 rfl (lv_at hl 0 rfl) ?_
  refine lv_iload hC.2.1.1 hC.2.1.2.1 dL_law_112 (lv_at hl 4 rfl) ?_
  refine lv_iconst (v := 2) hC.2.1.1 hC.2.1.2.1 dL_law_114 (by decide) ?_
  refine lv_iadd hC.2.1.1 hC.2.1.2.1 dL_law_115 ?_
  refine va_sld hC.2.1.1 hC.2.1.2.1 hX hbl hbA hw.2.2.2 hin2 dL_law_116 ?_
  refine lv_aload_n hC.2.1.1 hC.2.1.2.1 dL_law_117 rfl (lv_at hl 0 rfl) ?_
  refine lv_iload hC.2.1.1 hC.2.1.2.1 dL_law_118 (lv_at hl 4 rfl) ?_
  refine lv_iconst (v := 3) hC.2.1.1 hC.2.1.2.1 dL_law_120 (by decide) ?_
  refine lv_iadd hC.2.1.1 hC.2.1.2.1 dL_law_121 ?_
  refine va_sld hC.2.1.1 hC.2.1.2.1 hX hbl hbA hw.2.2.2 hin3 dL_law_122 ?_
  refine lv_aload_n hC.2.1.1 hC.2.1.2.1 dL_law_123 rfl (lv_at hl 0 rfl) ?_
  refine lv_iload hC.2.1.1 hC.2.1.2.1 dL_law_124 (lv_at hl 4 rfl) ?_
  refine lv_iconst (v := 4) hC.2.1.1 hC.2.1.2.1 dL_law_126 (by decide) ?_
  refine lv_iadd hC.2.1.1 hC.2.1.2.1 dL_law_127 ?_
  refine va_sld hC.2.1.1 hC.2.1.2.1 hX hbl hbA hw.2.2.2 hin4 dL_law_128 ?_
  refine lv_aload_n hC.2.1.1 hC.2.1.2.1 dL_law_129 rfl (lv_at hl 0 rfl) ?_
  refine lv_iload hC.2.1.1 hC.2.1.2.1 dL_law_130 (lv_at hl 4 rfl) ?_
  refine lv_iconst (v := 5) hC.2.1.1 hC.2.1.2.1 dL_law_132 (by decide) ?_
  refine lv_iadd hC.2.1.1 hC.2.1.2.1 dL_law_133 ?_
  refine va_sld hC.2.1.1 hC.2.1.2.1 hX hbl hbA hw.2.2.2 hin5 dL_law_134 ?_
  refine lv_aload_n hC.2.1.1 hC.2.1.2.1 dL_law_135 rfl (lv_at hl 3 rfl) ?_
  refine lcW (rest := []) (As := [.ref (gAd G 0), .int (xs (nI i + 1).toNatClampNeg), .int (xs (nI i + 2).toNatClampNeg), .int (xs (nI i + 3).toNatClampNeg), .int (xs (nI i + 4).toNatClampNeg), .int (xs (nI i + 5).toNatClampNeg), .ref o]) hC.2.1 hC.2.2.2.1 hC.2.2.2.2.1 hC.2.2.2.2.2 hml hl.1 hw (w_feed hC.2.2.2.2.2.1.1 l hC.1.2 hC.2.2.2.2.2.oOk (xs (nI i + 1).toNatClampNeg) (xs (nI i + 2).toNatClampNeg) (xs (nI i + 3).toNatClampNeg) (xs (nI i + 4).toNatClampNeg) (xs (nI i + 5).toNatClampNeg) σ f (fun k1 σ1 f1 => k1 = k ∧ σ1 = σ' ∧ f1 = f') (x_of_feed (hw1 (fun k1 σ1 f1 => k1 = k ∧ σ1 = σ' ∧ f1 = f') ⟨rfl, rfl, rfl⟩))) lu0 lu1 lu2 lu3 (k := 7) (by decide +kernel) (by decide) rfl rfl (Nat.le_of_ble_eq_true rfl) dL_law_136 hcs (fun r σ1 f1 H locs hq hw => ?_)
  obtain ⟨e1, e2, e3⟩ := hq
  rw [e2, e3] at hw
  rw [e1]
  refine lv_istore (lv' := [(5, .int k), (0, .ref b), (1, .ref (gAd G 0)), (2, .ref (gAd Gm 0)), (3, .ref o), (4, .int (nI i))]) hC.2.1.1 hC.2.1.2.1 dL_law_139 hl (by decide) rfl (fun ls hl => ?_)
  refine lv_aload_n hC.2.1.1 hC.2.1.2.1 dL_law_141 rfl (lv_at hl 3 rfl) ?_
  refine lv_aload_n hC.2.1.1 hC.2.1.2.1 dL_law_142 rfl (lv_at hl 1 rfl) ?_
  refine lv_iload hC.2.1.1 hC.2.1.2.1 dL_law_143 (lv_at hl 5 rfl) ?_
  refine lv_iconst (v := 1) hC.2.1.1 hC.2.1.2.1 dL_law_145 (by decide) ?_
  refine lv_iadd hC.2.1.1 hC.2.1.2.1 dL_law_146 ?_
  refine va_sld hC.2.1.1 hC.2.1.2.1 hX hbl hbA hw.2.2.2 hin1 dL_law_147 ?_
  refine lv_aload_n hC.2.1.1 hC.2.1.2.1 dL_law_148 rfl (lv_at hl 1 rfl) ?_
  refine lv_iload hC.2.1.1 hC.2.1.2.1 dL_law_149 (lv_at hl 5 rfl) ?_
  refine lv_iconst (v := 2) hC.2.1.1 hC.2.1.2.1 dL_law_151 (by decide) ?_
  refine lv_iadd hC.2.1.1 hC.2.1.2.1 dL_law_152 ?_
  refine va_sld hC.2.1.1 hC.2.1.2.1 hX hbl hbA hw.2.2.2 hin2 dL_law_153 ?_
  refine lv_aload_n hC.2.1.1 hC.2.1.2.1 dL_law_154 rfl (lv_at hl 1 rfl) ?_
  refine lv_iload hC.2.1.1 hC.2.1.2.1 dL_law_155 (lv_at hl 5 rfl) ?_
  refine lv_iconst (v := 3) hC.2.1.1 hC.2.1.2.1 dL_law_157 (by decide) ?_
  refine lv_iadd hC.2.1.1 hC.2.1.2.1 dL_law_158 ?_
  refine va_sld hC.2.1.1 hC.2.1.2.1 hX hbl hbA hw.2.2.2 hin3 dL_law_159 ?_
  refine lv_aload_n hC.2.1.1 hC.2.1.2.1 dL_law_160 rfl (lv_at hl 1 rfl) ?_
  refine lv_iload hC.2.1.1 hC.2.1.2.1 dL_law_161 (lv_at hl 5 rfl) ?_
  refine lv_iconst (v := 4) hC.2.1.1 hC.2.1.2.1 dL_law_163 (by decide) ?_
  refine lv_iadd hC.2.1.1 hC.2.1.2.1 dL_law_164 ?_
  refine va_sld hC.2.1.1 hC.2.1.2.1 hX hbl hbA hw.2.2.2 hin4 dL_law_165 ?_
  refine lv_aload_n hC.2.1.1 hC.2.1.2.1 dL_law_166 rfl (lv_at hl 1 rfl) ?_
  refine lv_iload hC.2.1.1 hC.2.1.2.1 dL_law_167 (lv_at hl 5 rfl) ?_
  refine lv_iconst (v := 5) hC.2.1.1 hC.2.1.2.1 dL_law_169 (by decide) ?_
  refine lv_iadd hC.2.1.1 hC.2.1.2.1 dL_law_170 ?_
  refine va_sld hC.2.1.1 hC.2.1.2.1 hX hbl hbA hw.2.2.2 hin5 dL_law_171 ?_
  refine lcM (rest := []) (As := [.int (xs (nI i + 1).toNatClampNeg), .int (xs (nI i + 2).toNatClampNeg), .int (xs (nI i + 3).toNatClampNeg), .int (xs (nI i + 4).toNatClampNeg), .int (xs (nI i + 5).toNatClampNeg)]) hC.2.2.1 hC.2.2.2.2.2 hml hl.1 hw (c_X11_feed hC.2.2.2.2.2.1.2 l (xs (nI i + 1).toNatClampNeg) (xs (nI i + 2).toNatClampNeg) (xs (nI i + 3).toNatClampNeg) (xs (nI i + 4).toNatClampNeg) (xs (nI i + 5).toNatClampNeg) τ (fun r1 τ1 => r1 = bb ∧ τ1 = τ') (hm1 _ ⟨rfl, rfl⟩)) lu4 lu8 lu5 lu6 lu7 rfl (k := 5) (by decide +kernel) (by decide) rfl rfl (Nat.le_of_ble_eq_true rfl) dL_law_172 hcs (fun r τ1 H locs hq hw => ?_)
  obtain ⟨e1, e2⟩ := hq
  rw [e2] at hw
  rw [e1]
  refine lv_istore (lv' := [(6, .int bb), (5, .int k), (0, .ref b), (1, .ref (gAd G 0)), (2, .ref (gAd Gm 0)), (3, .ref o), (4, .int (nI i))]) hC.2.1.1 hC.2.1.2.1 dL_law_175 hl (by decide) rfl (fun ls hl => ?_)
  refine lv_aload_n hC.2.1.1 hC.2.1.2.1 dL_law_177 rfl (lv_at hl 4 rfl) ?_
  refine lcM (rest := []) (As := []) hC.2.2.1 hC.2.2.2.2.2 hml hl.1 hw (c_X11_thrown hC.2.2.2.2.2.1.2 l τ' (fun r1 τ1 => r1 = k ∧ τ1 = τ') ⟨hk0, rfl⟩) lu9 lu12 lu10 lu11 lu7 rfl (k := 0) (by decide +kernel) (by decide) rfl rfl (Nat.le_of_ble_eq_true rfl) dL_law_178 hcs (fun r τ1 H locs hq hw => ?_)
  obtain ⟨e1, e2⟩ := hq
  rw [e2] at hw
  rw [e1]
  refine lv_iload hC.2.1.1 hC.2.1.2.1 dL_law_181 (lv_at hl 1 rfl) ?_
  refine lv_icmp_eq (tgt := 188) hC.2.1.1 hC.2.1.2.1 dL_law_183 (by decide) (fun _ => ?_) (fun z => absurd rfl z)
  refine lv_iload hC.2.1.1 hC.2.1.2.1 dL_law_188 (lv_at hl 1 rfl) ?_
  have fin : W p l e room_1 s m #[Value.ref b] below meth c H locs (cells + 1) (slots + 6) (lw_Z below #[Value.ref b] s) (F0 m 205 ls []) := by
    refine lv_goto (tgt := 706) hC.2.1.1 hC.2.1.2.1 dL_law_205 (by decide) ?_
    exact hK σ' τ' f' _ _ _ hRR hw (lv_sub hl [2, 3, 4, 5, 6] rfl)
  refine lv_if_ne (tgt := 205) hC.2.1.1 hC.2.1.2.1 dL_law_190 (by decide) (fun _ => fin) (fun z0 => ?_)
  refine lv_aload_n hC.2.1.1 hC.2.1.2.1 dL_law_193 rfl (lv_at hl 5 rfl) ?_
  refine lv_iconst (v := 0) hC.2.1.1 hC.2.1.2.1 dL_law_194 (by decide) ?_
  refine lcLd hC.2.1 hC.2.2.2.2.1 hw dL_law_195 ?_
  refine lv_iload hC.2.1.1 hC.2.1.2.1 dL_law_196 (lv_at hl 0 rfl) ?_
  refine lv_i2l (v := bb.toInt64) hC.2.1.1 hC.2.1.2.1 dL_law_198 rfl ?_
  refine W.lcmp hC.2.1.1 hC.2.1.2.1 dL_law_199 ?_
  exact lv_if_eq (tgt := 205) hC.2.1.1 hC.2.1.2.1 dL_law_200 (by decide) (fun _ => fin) (fun z => absurd (by rw [hkb z0]; exact lgc_self _) z)
set_option maxRecDepth 20000 in
set_option maxHeartbeats 4000000 in
theorem law_clear {p : Program} {l : Launch} {e : Env} {s : State} {m : MethodId} {below : List Frame} {meth : Method} {c : Code} {H : Heap} {locs : List Loc} {cells slots : Nat} {ls : Array Slot} {G Gm : GG} {cJ : ClassId} {o b L i lim : Nat} {xs : Nat → Int32} {σ τ : S9} {f : Nat → Int64} (hC : LEv G Gm cJ o l p s m meth c b L xs) (hi : i + 6 ≤ L) (hL : L ≤ 3072) (hlim : lim + 1000 < 1000000) (hR : RR σ τ lim) (hw : LH G Gm cJ o σ τ f s H locs) (hcs : cells + 1 ≤ 1104 ∧ slots + 6 ≤ 57197) (hl : lv_has ls 7 [(0, .ref b), (1, .ref (gAd G 0)), (2, .ref (gAd Gm 0)), (3, .ref o), (4, .int (nI i))])
    (hK : ∀ (σ τ : S9) (f : Nat → Int64) (H : Heap) (locs : List Loc) (ls : Array Slot), RR σ τ (lim + 1000) → LH G Gm cJ o σ τ f s H locs → lv_has ls 7 [(0, .ref b), (1, .ref (gAd G 0)), (2, .ref (gAd Gm 0)), (3, .ref o), (4, .int (nI i))] → W p l e room_1 s m #[Value.ref b] below meth c H locs (cells + 1) (slots + 6) (lw_Z below #[Value.ref b] s) (F0 m 706 ls [])) : W p l e room_1 s m #[Value.ref b] below meth c H locs cells slots (lw_Z below #[Value.ref b] s) (F0 m 208 ls []) := by
  obtain ⟨-, -, -, hml, -, -, hX, hbl, -, -⟩ := hC.1.1
  have hbA : ¬ LR s b := Nat.not_le.mpr hbl
  have hcs0 : cells ≤ 1104 ∧ slots ≤ 57197 := ⟨by omega, by omega⟩
  obtain ⟨bb, σ', τ', hRR, hw1, hm1⟩ := k_clear hR
  have hRR := RR_lim hRR (Nat.le_add_right lim 1000)
  refine lv_aload_n hC.2.1.1 hC.2.1.2.1 dL_law_208 rfl (lv_at hl 1 rfl) ?_
  refine lcC (rest := []) (As := []) hC.2.1 hC.2.2.2.2.2 hml hl.1 hw (c_X10_clear hC.2.2.2.2.2.1.1 l σ (fun r1 σ1 => r1 = bb ∧ σ1 = σ') (hw1 _ ⟨rfl, rfl⟩)) lu13 lu17 lu14 lu15 lu16 rfl (k := 0) (by decide +kernel) (by decide) rfl rfl (Nat.le_of_ble_eq_true rfl) dL_law_209 hcs0 (fun r σ1 H locs hq hw => ?_)
  obtain ⟨e1, e2⟩ := hq
  rw [e2] at hw
  rw [e1]
  refine lv_aload_n hC.2.1.1 hC.2.1.2.1 dL_law_212 rfl (lv_at hl 2 rfl) ?_
  refine lcM (rest := [.int bb]) (As := []) hC.2.2.1 hC.2.2.2.2.2 hml hl.1 hw (c_X11_clear hC.2.2.2.2.2.1.2 l  τ (fun r1 τ1 => r1 = bb ∧ τ1 = τ') (hm1 _ ⟨rfl, rfl⟩)) lu18 lu21 lu19 lu20 lu7 rfl (k := 0) (by decide +kernel) (by decide) rfl rfl (Nat.le_of_ble_eq_true rfl) dL_law_213 hcs0 (fun r τ1 H locs hq hw => ?_)
  obtain ⟨e1, e2⟩ := hq
  rw [e2] at hw
  rw [e1]
  refine lv_icmp_eq (tgt := 706) hC.2.1.1 hC.2.1.2.1 dL_law_216 (by decide) (fun _ => ?_) (fun z => absurd rfl z)
  refine W.widen (k := cells + 1) (n := slots + 6) (Nat.le_add_right _ _) (Nat.le_add_right _ _) ?_
  exact hK σ' τ' f _ _ _ hRR hw (lv_sub hl [0, 1, 2, 3, 4] rfl)
set_option maxRecDepth 20000 in
set_option maxHeartbeats 4000000 in
theorem law_compile {p : Program} {l : Launch} {e : Env} {s : State} {m : MethodId} {below : List Frame} {meth : Method} {c : Code} {H : Heap} {locs : List Loc} {cells slots : Nat} {ls : Array Slot} {G Gm : GG} {cJ : ClassId} {o b L i lim : Nat} {xs : Nat → Int32} {σ τ : S9} {f : Nat → Int64} (hC : LEv G Gm cJ o l p s m meth c b L xs) (hi : i + 6 ≤ L) (hL : L ≤ 3072) (hlim : lim + 1000 < 1000000) (hR : RR σ τ lim) (hw : LH G Gm cJ o σ τ f s H locs) (hcs : cells + 1 ≤ 1104 ∧ slots + 6 ≤ 57197) (hl : lv_has ls 7 [(0, .ref b), (1, .ref (gAd G 0)), (2, .ref (gAd Gm 0)), (3, .ref o), (4, .int (nI i))])
    (hK : ∀ (σ τ : S9) (f : Nat → Int64) (H : Heap) (locs : List Loc) (ls : Array Slot), RR σ τ (lim + 1000) → LH G Gm cJ o σ τ f s H locs → lv_has ls 7 [(0, .ref b), (1, .ref (gAd G 0)), (2, .ref (gAd Gm 0)), (3, .ref o), (4, .int (nI i))] → W p l e room_1 s m #[Value.ref b] below meth c H locs (cells + 1) (slots + 6) (lw_Z below #[Value.ref b] s) (F0 m 706 ls [])) : W p l e room_1 s m #[Value.ref b] below meth c H locs cells slots (lw_Z below #[Value.ref b] s) (F0 m 221 ls []) := by
  obtain ⟨-, -, -, hml, -, -, hX, hbl, -, -⟩ := hC.1.1
  have hbA : ¬ LR s b := Nat.not_le.mpr hbl
  have hcs0 : cells ≤ 1104 ∧ slots ≤ 57197 := ⟨by omega, by omega⟩
  obtain ⟨bb, PB, PC, hRR, hw1, hm1⟩ := k_compile hR
  refine lv_aload_n hC.2.1.1 hC.2.1.2.1 dL_law_221 rfl (lv_at hl 1 rfl) ?_
  refine lcC (rest := []) (As := []) hC.2.1 hC.2.2.2.2.2 hml hl.1 hw (c_X10_compile hC.2.2.2.2.2.1.1 l σ (fun r1 σ1 => r1 = bb ∧ PB σ1) (hw1 _ (fun σ1 h1 => ⟨rfl, h1⟩))) lu22 lu25 lu23 lu24 lu16 rfl (k := 0) (by decide +kernel) (by decide) rfl rfl (Nat.le_of_ble_eq_true rfl) dL_law_222 hcs0 (fun r σ1 H locs hq hw => ?_)
  obtain ⟨e1, hb1⟩ := hq
  rw [e1]
  refine lv_aload_n hC.2.1.1 hC.2.1.2.1 dL_law_225 rfl (lv_at hl 2 rfl) ?_
  refine lcM (rest := [.int bb]) (As := []) hC.2.2.1 hC.2.2.2.2.2 hml hl.1 hw (c_X11_compile hC.2.2.2.2.2.1.2 l τ (fun r1 τ1 => r1 = bb ∧ PC τ1) (hm1 _ (fun τ1 h1 => ⟨rfl, h1⟩))) lu26 lu29 lu27 lu28 lu7 rfl (k := 0) (by decide +kernel) (by decide) rfl rfl (Nat.le_of_ble_eq_true rfl) dL_law_226 hcs0 (fun r τ1 H locs hq hw => ?_)
  obtain ⟨e1, hc1⟩ := hq
  rw [e1]
  refine lv_icmp_eq (tgt := 706) hC.2.1.1 hC.2.1.2.1 dL_law_229 (by decide) (fun _ => ?_) (fun z => absurd rfl z)
  refine W.widen (k := cells + 1) (n := slots + 6) (Nat.le_add_right _ _) (Nat.le_add_right _ _) ?_
  exact hK σ1 τ1 f _ _ _ (RR_lim (hRR _ _ hb1 hc1) (Nat.le_add_right lim 1000)) hw (lv_sub hl [0, 1, 2, 3, 4] rfl)
set_option maxRecDepth 20000 in
set_option maxHeartbeats 4000000 in
theorem law_give {p : Program} {l : Launch} {e : Env} {s : State} {m : MethodId} {below : List Frame} {meth : Method} {c : Code} {H : Heap} {locs : List Loc} {cells slots : Nat} {ls : Array Slot} {G Gm : GG} {cJ : ClassId} {o b L i lim : Nat} {xs : Nat → Int32} {σ τ : S9} {f : Nat → Int64} (hC : LEv G Gm cJ o l p s m meth c b L xs) (hi : i + 6 ≤ L) (hL : L ≤ 3072) (hlim : lim + 1000 < 1000000) (hR : RR σ τ lim) (hw : LH G Gm cJ o σ τ f s H locs) (hcs : cells + 1 ≤ 1104 ∧ slots + 6 ≤ 57197) (hl : lv_has ls 7 [(0, .ref b), (1, .ref (gAd G 0)), (2, .ref (gAd Gm 0)), (3, .ref o), (4, .int (nI i))])
    (hK : ∀ (σ τ : S9) (f : Nat → Int64) (H : Heap) (locs : List Loc) (ls : Array Slot), RR σ τ (lim + 1000) → LH G Gm cJ o σ τ f s H locs → lv_has ls 7 [(0, .ref b), (1, .ref (gAd G 0)), (2, .ref (gAd Gm 0)), (3, .ref o), (4, .int (nI i))] → W p l e room_1 s m #[Value.ref b] below meth c H locs (cells + 1) (slots + 6) (lw_Z below #[Value.ref b] s) (F0 m 706 ls [])) : W p l e room_1 s m #[Value.ref b] below meth c H locs cells slots (lw_Z below #[Value.ref b] s) (F0 m 234 ls []) := by
  obtain ⟨-, -, -, hml, -, -, hX, hbl, -, -⟩ := hC.1.1
  have hbA : ¬ LR s b := Nat.not_le.mpr hbl
  have hcs0 : cells ≤ 1104 ∧ slots ≤ 57197 := ⟨by omega, by omega⟩
  have hin1 : vp_in (nI i + 1) L := lin hi hL (by decide)
  obtain ⟨k, bb, σ', τ', f', hRR, hk0, hkb, hw1, hm1⟩ := okc_use (k_give (xs (nI i + 1).toNatClampNeg) hR) f
  have hRR := RR_lim hRR (Nat.le_add_right lim 1000)
  refine lv_aload_n hC.2.1.1 hC.2.1.2.1 dL_law_234 rfl (lv_at hl 1 rfl) ?_
  refine lv_aload_n hC.2.1.1 hC.2.1.2.1 dL_law_235 rfl (lv_at hl 0 rfl) ?_
  refine lv_iload hC.2.1.1 hC.2.1.2.1 dL_law_236 (lv_at hl 4 rfl) ?_
  refine lv_iconst (v := 1) hC.2.1.1 hC.2.1.2.1 dL_law_238 (by decide) ?_
  refine lv_iadd hC.2.1.1 hC.2.1.2.1 dL_law_239 ?_
  refine va_sld hC.2.1.1 hC.2.1.2.1 hX hbl hbA hw.2.2.2 hin1 dL_law_240 ?_
  refine lv_aload_n hC.2.1.1 hC.2.1.2.1 dL_law_241 rfl (lv_at hl 3 rfl) ?_
  refine lcW (rest := []) (As := [.ref (gAd G 0), .int (xs (nI i + 1).toNatClampNeg), .ref o]) hC.2.1 hC.2.2.2.1 hC.2.2.2.2.1 hC.2.2.2.2.2 hml hl.1 hw (w_give hC.2.2.2.2.2.1.1 l hC.1.2 hC.2.2.2.2.2.oOk (xs (nI i + 1).toNatClampNeg) σ f (fun k1 σ1 f1 => k1 = k ∧ σ1 = σ' ∧ f1 = f') (x_of_give (hw1 (fun k1 σ1 f1 => k1 = k ∧ σ1 = σ' ∧ f1 = f') ⟨rfl, rfl, rfl⟩))) lu30 lu31 lu32 lu3 (k := 3) (by decide +kernel) (by decide) rfl rfl (Nat.le_of_ble_eq_true rfl) dL_law_242 hcs (fun r σ1 f1 H locs hq hw => ?_)
  obtain ⟨e1, e2, e3⟩ := hq
  rw [e2, e3] at hw
  rw [e1]
  refine lv_istore (lv' := [(5, .int k), (0, .ref b), (1, .ref (gAd G 0)), (2, .ref (gAd Gm 0)), (3, .ref o), (4, .int (nI i))]) hC.2.1.1 hC.2.1.2.1 dL_law_245 hl (by decide) rfl (fun ls hl => ?_)
  refine lv_aload_n hC.2.1.1 hC.2.1.2.1 dL_law_247 rfl (lv_at hl 3 rfl) ?_
  refine lv_aload_n hC.2.1.1 hC.2.1.2.1 dL_law_248 rfl (lv_at hl 1 rfl) ?_
  refine lv_iload hC.2.1.1 hC.2.1.2.1 dL_law_249 (lv_at hl 5 rfl) ?_
  refine lv_iconst (v := 1) hC.2.1.1 hC.2.1.2.1 dL_law_251 (by decide) ?_
  refine lv_iadd hC.2.1.1 hC.2.1.2.1 dL_law_252 ?_
  refine va_sld hC.2.1.1 hC.2.1.2.1 hX hbl hbA hw.2.2.2 hin1 dL_law_253 ?_
  refine lcM (rest := []) (As := [.int (xs (nI i + 1).toNatClampNeg)]) hC.2.2.1 hC.2.2.2.2.2 hml hl.1 hw (c_X11_give hC.2.2.2.2.2.1.2 l (xs (nI i + 1).toNatClampNeg) τ (fun r1 τ1 => r1 = bb ∧ τ1 = τ') (hm1 _ ⟨rfl, rfl⟩)) lu33 lu36 lu34 lu35 lu7 rfl (k := 1) (by decide +kernel) (by decide) rfl rfl (Nat.le_of_ble_eq_true rfl) dL_law_254 hcs (fun r τ1 H locs hq hw => ?_)
  obtain ⟨e1, e2⟩ := hq
  rw [e2] at hw
  rw [e1]
  refine lv_istore (lv' := [(6, .int bb), (5, .int k), (0, .ref b), (1, .ref (gAd G 0)), (2, .ref (gAd Gm 0)), (3, .ref o), (4, .int (nI i))]) hC.2.1.1 hC.2.1.2.1 dL_law_257 hl (by decide) rfl (fun ls hl => ?_)
  refine lv_aload_n hC.2.1.1 hC.2.1.2.1 dL_law_259 rfl (lv_at hl 4 rfl) ?_
  refine lcM (rest := []) (As := []) hC.2.2.1 hC.2.2.2.2.2 hml hl.1 hw (c_X11_thrown hC.2.2.2.2.2.1.2 l τ' (fun r1 τ1 => r1 = k ∧ τ1 = τ') ⟨hk0, rfl⟩) lu9 lu12 lu10 lu11 lu7 rfl (k := 0) (by decide +kernel) (by decide) rfl rfl (Nat.le_of_ble_eq_true rfl) dL_law_260 hcs (fun r τ1 H locs hq hw => ?_)
  obtain ⟨e1, e2⟩ := hq
  rw [e2] at hw
  rw [e1]
  refine lv_iload hC.2.1.1 hC.2.1.2.1 dL_law_263 (lv_at hl 1 rfl) ?_
  refine lv_icmp_eq (tgt := 270) hC.2.1.1 hC.2.1.2.1 dL_law_265 (by decide) (fun _ => ?_) (fun z => absurd rfl z)
  refine lv_iload hC.2.1.1 hC.2.1.2.1 dL_law_270 (lv_at hl 1 rfl) ?_
  have fin : W p l e room_1 s m #[Value.ref b] below meth c H locs (cells + 1) (slots + 6) (lw_Z below #[Value.ref b] s) (F0 m 287 ls []) := by
    refine lv_goto (tgt := 706) hC.2.1.1 hC.2.1.2.1 dL_law_287 (by decide) ?_
    exact hK σ' τ' f' _ _ _ hRR hw (lv_sub hl [2, 3, 4, 5, 6] rfl)
  refine lv_if_ne (tgt := 287) hC.2.1.1 hC.2.1.2.1 dL_law_272 (by decide) (fun _ => fin) (fun z0 => ?_)
  refine lv_aload_n hC.2.1.1 hC.2.1.2.1 dL_law_275 rfl (lv_at hl 5 rfl) ?_
  refine lv_iconst (v := 0) hC.2.1.1 hC.2.1.2.1 dL_law_276 (by decide) ?_
  refine lcLd hC.2.1 hC.2.2.2.2.1 hw dL_law_277 ?_
  refine lv_iload hC.2.1.1 hC.2.1.2.1 dL_law_278 (lv_at hl 0 rfl) ?_
  refine lv_i2l (v := bb.toInt64) hC.2.1.1 hC.2.1.2.1 dL_law_280 rfl ?_
  refine W.lcmp hC.2.1.1 hC.2.1.2.1 dL_law_281 ?_
  exact lv_if_eq (tgt := 287) hC.2.1.1 hC.2.1.2.1 dL_law_282 (by decide) (fun _ => fin) (fun z => absurd (by rw [hkb z0]; exact lgc_self _) z)
set_option maxRecDepth 20000 in
set_option maxHeartbeats 4000000 in
theorem law_start {p : Program} {l : Launch} {e : Env} {s : State} {m : MethodId} {below : List Frame} {meth : Method} {c : Code} {H : Heap} {locs : List Loc} {cells slots : Nat} {ls : Array Slot} {G Gm : GG} {cJ : ClassId} {o b L i lim : Nat} {xs : Nat → Int32} {σ τ : S9} {f : Nat → Int64} (hC : LEv G Gm cJ o l p s m meth c b L xs) (hi : i + 6 ≤ L) (hL : L ≤ 3072) (hlim : lim + 1000 < 1000000) (hR : RR σ τ lim) (hw : LH G Gm cJ o σ τ f s H locs) (hcs : cells + 1 ≤ 1104 ∧ slots + 6 ≤ 57197) (hl : lv_has ls 7 [(0, .ref b), (1, .ref (gAd G 0)), (2, .ref (gAd Gm 0)), (3, .ref o), (4, .int (nI i))])
    (hK : ∀ (σ τ : S9) (f : Nat → Int64) (H : Heap) (locs : List Loc) (ls : Array Slot), RR σ τ (lim + 1000) → LH G Gm cJ o σ τ f s H locs → lv_has ls 7 [(0, .ref b), (1, .ref (gAd G 0)), (2, .ref (gAd Gm 0)), (3, .ref o), (4, .int (nI i))] → W p l e room_1 s m #[Value.ref b] below meth c H locs (cells + 1) (slots + 6) (lw_Z below #[Value.ref b] s) (F0 m 706 ls [])) : W p l e room_1 s m #[Value.ref b] below meth c H locs cells slots (lw_Z below #[Value.ref b] s) (F0 m 290 ls []) := by
  obtain ⟨-, -, -, hml, -, -, hX, hbl, -, -⟩ := hC.1.1
  have hbA : ¬ LR s b := Nat.not_le.mpr hbl
  have hcs0 : cells ≤ 1104 ∧ slots ≤ 57197 := ⟨by omega, by omega⟩
  obtain ⟨k, σ', τ', hRR, hk0, hw1, hm1⟩ := okc_start (k_start hR) f
  have hRR := RR_lim hRR (Nat.le_add_right lim 1000)
  refine lv_aload_n hC.2.1.1 hC.2.1.2.1 dL_law_290 rfl (lv_at hl 1 rfl) ?_
  refine lcW (rest := []) (As := [.ref (gAd G 0)]) hC.2.1 hC.2.2.2.1 hC.2.2.2.2.1 hC.2.2.2.2.2 hml hl.1 hw (w_start hC.2.2.2.2.2.1.1 l hC.1.2 hC.2.2.2.2.2.oOk  σ f (fun k1 σ1 f1 => k1 = k ∧ σ1 = σ' ∧ f1 = f) (hw1 (fun k1 σ1 f1 => k1 = k ∧ σ1 = σ' ∧ f1 = f) ⟨rfl, rfl, rfl⟩)) lu37 lu38 lu39 lu3 (k := 1) (by decide +kernel) (by decide) rfl rfl (Nat.le_of_ble_eq_true rfl) dL_law_291 hcs (fun r σ1 f1 H locs hq hw => ?_)
  obtain ⟨e1, e2, e3⟩ := hq
  rw [e2, e3] at hw
  rw [e1]
  refine lv_istore (lv' := [(5, .int k), (0, .ref b), (1, .ref (gAd G 0)), (2, .ref (gAd Gm 0)), (3, .ref o), (4, .int (nI i))]) hC.2.1.1 hC.2.1.2.1 dL_law_294 hl (by decide) rfl (fun ls hl => ?_)
  refine lv_aload_n hC.2.1.1 hC.2.1.2.1 dL_law_296 rfl (lv_at hl 3 rfl) ?_
  refine lcMv (rest := []) (As := []) hC.2.2.1 hC.2.2.2.2.2 hml hl.1 hw (c_X11_start hC.2.2.2.2.2.1.2 l τ (fun τ1 => τ1 = τ') (hm1 _ rfl)) lu40 lu43 lu41 lu42 lu7 rfl (k := 0) (by decide +kernel) (by decide) rfl rfl (Nat.le_of_ble_eq_true rfl) dL_law_297 hcs (fun τ1 H locs hq hw => ?_)
  rw [hq] at hw
  refine lv_aload_n hC.2.1.1 hC.2.1.2.1 dL_law_300 rfl (lv_at hl 3 rfl) ?_
  refine lcM (rest := []) (As := []) hC.2.2.1 hC.2.2.2.2.2 hml hl.1 hw (c_X11_thrown hC.2.2.2.2.2.1.2 l τ' (fun r1 τ1 => r1 = k ∧ τ1 = τ') ⟨hk0, rfl⟩) lu9 lu12 lu10 lu11 lu7 rfl (k := 0) (by decide +kernel) (by decide) rfl rfl (Nat.le_of_ble_eq_true rfl) dL_law_301 hcs (fun r τ1 H locs hq hw => ?_)
  obtain ⟨e1, e2⟩ := hq
  rw [e2] at hw
  rw [e1]
  refine lv_iload hC.2.1.1 hC.2.1.2.1 dL_law_304 (lv_at hl 0 rfl) ?_
  refine lv_icmp_eq (tgt := 311) hC.2.1.1 hC.2.1.2.1 dL_law_306 (by decide) (fun _ => ?_) (fun z => absurd rfl z)
  refine lv_goto (tgt := 706) hC.2.1.1 hC.2.1.2.1 dL_law_311 (by decide) ?_
  exact hK σ' τ' f _ _ _ hRR hw (lv_sub hl [1, 2, 3, 4, 5] rfl)
set_option maxRecDepth 20000 in
set_option maxHeartbeats 4000000 in
theorem law_run {p : Program} {l : Launch} {e : Env} {s : State} {m : MethodId} {below : List Frame} {meth : Method} {c : Code} {H : Heap} {locs : List Loc} {cells slots : Nat} {ls : Array Slot} {G Gm : GG} {cJ : ClassId} {o b L i lim : Nat} {xs : Nat → Int32} {σ τ : S9} {f : Nat → Int64} (hC : LEv G Gm cJ o l p s m meth c b L xs) (hi : i + 6 ≤ L) (hL : L ≤ 3072) (hlim : lim + 1000 < 1000000) (hR : RR σ τ lim) (hw : LH G Gm cJ o σ τ f s H locs) (hcs : cells + 1 ≤ 1104 ∧ slots + 6 ≤ 57197) (hl : lv_has ls 7 [(0, .ref b), (1, .ref (gAd G 0)), (2, .ref (gAd Gm 0)), (3, .ref o), (4, .int (nI i))])
    (hK : ∀ (σ τ : S9) (f : Nat → Int64) (H : Heap) (locs : List Loc) (ls : Array Slot), RR σ τ (lim + 1000) → LH G Gm cJ o σ τ f s H locs → lv_has ls 7 [(0, .ref b), (1, .ref (gAd G 0)), (2, .ref (gAd Gm 0)), (3, .ref o), (4, .int (nI i))] → W p l e room_1 s m #[Value.ref b] below meth c H locs (cells + 1) (slots + 6) (lw_Z below #[Value.ref b] s) (F0 m 706 ls [])) : W p l e room_1 s m #[Value.ref b] below meth c H locs cells slots (lw_Z below #[Value.ref b] s) (F0 m 314 ls []) := by
  obtain ⟨-, -, -, hml, -, -, hX, hbl, -, -⟩ := hC.1.1
  have hbA : ¬ LR s b := Nat.not_le.mpr hbl
  have hcs0 : cells ≤ 1104 ∧ slots ≤ 57197 := ⟨by omega, by omega⟩
  have hin1 : vp_in (nI i + 1) L := lin hi hL (by decide)
  obtain ⟨k, bb, σ', τ', f', hRR, hk0, hkb, hw1, hm1⟩ := okc_use (k_run (xs (nI i + 1).toNatClampNeg) hR (by omega)) f
  refine lv_aload_n hC.2.1.1 hC.2.1.2.1 dL_law_314 rfl (lv_at hl 1 rfl) ?_
  refine lv_aload_n hC.2.1.1 hC.2.1.2.1 dL_law_315 rfl (lv_at hl 0 rfl) ?_
  refine lv_iload hC.2.1.1 hC.2.1.2.1 dL_law_316 (lv_at hl 4 rfl) ?_
  refine lv_iconst (v := 1) hC.2.1.1 hC.2.1.2.1 dL_law_318 (by decide) ?_
  refine lv_iadd hC.2.1.1 hC.2.1.2.1 dL_law_319 ?_
  refine va_sld hC.2.1.1 hC.2.1.2.1 hX hbl hbA hw.2.2.2 hin1 dL_law_320 ?_
  refine lv_aload_n hC.2.1.1 hC.2.1.2.1 dL_law_321 rfl (lv_at hl 3 rfl) ?_
  refine lcW (rest := []) (As := [.ref (gAd G 0), .int (xs (nI i + 1).toNatClampNeg), .ref o]) hC.2.1 hC.2.2.2.1 hC.2.2.2.2.1 hC.2.2.2.2.2 hml hl.1 hw (w_run hC.2.2.2.2.2.1.1 l hC.1.2 hC.2.2.2.2.2.oOk (xs (nI i + 1).toNatClampNeg) σ f (fun k1 σ1 f1 => k1 = k ∧ σ1 = σ' ∧ f1 = f') (x_of_run (hw1 (fun k1 σ1 f1 => k1 = k ∧ σ1 = σ' ∧ f1 = f') ⟨rfl, rfl, rfl⟩))) lu44 lu45 lu46 lu3 (k := 3) (by decide +kernel) (by decide) rfl rfl (Nat.le_of_ble_eq_true rfl) dL_law_322 hcs (fun r σ1 f1 H locs hq hw => ?_)
  obtain ⟨e1, e2, e3⟩ := hq
  rw [e2, e3] at hw
  rw [e1]
  refine lv_istore (lv' := [(5, .int k), (0, .ref b), (1, .ref (gAd G 0)), (2, .ref (gAd Gm 0)), (3, .ref o), (4, .int (nI i))]) hC.2.1.1 hC.2.1.2.1 dL_law_325 hl (by decide) rfl (fun ls hl => ?_)
  refine lv_aload_n hC.2.1.1 hC.2.1.2.1 dL_law_327 rfl (lv_at hl 3 rfl) ?_
  refine lv_aload_n hC.2.1.1 hC.2.1.2.1 dL_law_328 rfl (lv_at hl 1 rfl) ?_
  refine lv_iload hC.2.1.1 hC.2.1.2.1 dL_law_329 (lv_at hl 5 rfl) ?_
  refine lv_iconst (v := 1) hC.2.1.1 hC.2.1.2.1 dL_law_331 (by decide) ?_
  refine lv_iadd hC.2.1.1 hC.2.1.2.1 dL_law_332 ?_
  refine va_sld hC.2.1.1 hC.2.1.2.1 hX hbl hbA hw.2.2.2 hin1 dL_law_333 ?_
  refine lcM (rest := []) (As := [.int (xs (nI i + 1).toNatClampNeg)]) hC.2.2.1 hC.2.2.2.2.2 hml hl.1 hw (c_X11_run hC.2.2.2.2.2.1.2 l (xs (nI i + 1).toNatClampNeg) τ (fun r1 τ1 => r1 = bb ∧ τ1 = τ') (hm1 _ ⟨rfl, rfl⟩)) lu47 lu50 lu48 lu49 lu7 rfl (k := 1) (by decide +kernel) (by decide) rfl rfl (Nat.le_of_ble_eq_true rfl) dL_law_334 hcs (fun r τ1 H locs hq hw => ?_)
  obtain ⟨e1, e2⟩ := hq
  rw [e2] at hw
  rw [e1]
  refine lv_istore (lv' := [(6, .int bb), (5, .int k), (0, .ref b), (1, .ref (gAd G 0)), (2, .ref (gAd Gm 0)), (3, .ref o), (4, .int (nI i))]) hC.2.1.1 hC.2.1.2.1 dL_law_337 hl (by decide) rfl (fun ls hl => ?_)
  refine lv_aload_n hC.2.1.1 hC.2.1.2.1 dL_law_339 rfl (lv_at hl 4 rfl) ?_
  refine lcM (rest := []) (As := []) hC.2.2.1 hC.2.2.2.2.2 hml hl.1 hw (c_X11_thrown hC.2.2.2.2.2.1.2 l τ' (fun r1 τ1 => r1 = k ∧ τ1 = τ') ⟨hk0, rfl⟩) lu9 lu12 lu10 lu11 lu7 rfl (k := 0) (by decide +kernel) (by decide) rfl rfl (Nat.le_of_ble_eq_true rfl) dL_law_340 hcs (fun r τ1 H locs hq hw => ?_)
  obtain ⟨e1, e2⟩ := hq
  rw [e2] at hw
  rw [e1]
  refine lv_iload hC.2.1.1 hC.2.1.2.1 dL_law_343 (lv_at hl 1 rfl) ?_
  refine lv_icmp_eq (tgt := 350) hC.2.1.1 hC.2.1.2.1 dL_law_345 (by decide) (fun _ => ?_) (fun z => absurd rfl z)
  refine lv_iload hC.2.1.1 hC.2.1.2.1 dL_law_350 (lv_at hl 1 rfl) ?_
  have fin : W p l e room_1 s m #[Value.ref b] below meth c H locs (cells + 1) (slots + 6) (lw_Z below #[Value.ref b] s) (F0 m 367 ls []) := by
    refine lv_goto (tgt := 706) hC.2.1.1 hC.2.1.2.1 dL_law_367 (by decide) ?_
    exact hK σ' τ' f' _ _ _ hRR hw (lv_sub hl [2, 3, 4, 5, 6] rfl)
  refine lv_if_ne (tgt := 367) hC.2.1.1 hC.2.1.2.1 dL_law_352 (by decide) (fun _ => fin) (fun z0 => ?_)
  refine lv_aload_n hC.2.1.1 hC.2.1.2.1 dL_law_355 rfl (lv_at hl 5 rfl) ?_
  refine lv_iconst (v := 0) hC.2.1.1 hC.2.1.2.1 dL_law_356 (by decide) ?_
  refine lcLd hC.2.1 hC.2.2.2.2.1 hw dL_law_357 ?_
  refine lv_iload hC.2.1.1 hC.2.1.2.1 dL_law_358 (lv_at hl 0 rfl) ?_
  refine lv_i2l (v := bb.toInt64) hC.2.1.1 hC.2.1.2.1 dL_law_360 rfl ?_
  refine W.lcmp hC.2.1.1 hC.2.1.2.1 dL_law_361 ?_
  exact lv_if_eq (tgt := 367) hC.2.1.1 hC.2.1.2.1 dL_law_362 (by decide) (fun _ => fin) (fun z => absurd (by rw [hkb z0]; exact lgc_self _) z)
set_option maxRecDepth 20000 in
set_option maxHeartbeats 4000000 in
theorem law_state {p : Program} {l : Launch} {e : Env} {s : State} {m : MethodId} {below : List Frame} {meth : Method} {c : Code} {H : Heap} {locs : List Loc} {cells slots : Nat} {ls : Array Slot} {G Gm : GG} {cJ : ClassId} {o b L i lim : Nat} {xs : Nat → Int32} {σ τ : S9} {f : Nat → Int64} (hC : LEv G Gm cJ o l p s m meth c b L xs) (hi : i + 6 ≤ L) (hL : L ≤ 3072) (hlim : lim + 1000 < 1000000) (hR : RR σ τ lim) (hw : LH G Gm cJ o σ τ f s H locs) (hcs : cells + 1 ≤ 1104 ∧ slots + 6 ≤ 57197) (hl : lv_has ls 7 [(0, .ref b), (1, .ref (gAd G 0)), (2, .ref (gAd Gm 0)), (3, .ref o), (4, .int (nI i))])
    (hK : ∀ (σ τ : S9) (f : Nat → Int64) (H : Heap) (locs : List Loc) (ls : Array Slot), RR σ τ (lim + 1000) → LH G Gm cJ o σ τ f s H locs → lv_has ls 7 [(0, .ref b), (1, .ref (gAd G 0)), (2, .ref (gAd Gm 0)), (3, .ref o), (4, .int (nI i))] → W p l e room_1 s m #[Value.ref b] below meth c H locs (cells + 1) (slots + 6) (lw_Z below #[Value.ref b] s) (F0 m 706 ls [])) : W p l e room_1 s m #[Value.ref b] below meth c H locs cells slots (lw_Z below #[Value.ref b] s) (F0 m 370 ls []) := by
  obtain ⟨-, -, -, hml, -, -, hX, hbl, -, -⟩ := hC.1.1
  have hbA : ¬ LR s b := Nat.not_le.mpr hbl
  have hcs0 : cells ≤ 1104 ∧ slots ≤ 57197 := ⟨by omega, by omega⟩
  have hin1 : vp_in (nI i + 1) L := lin hi hL (by decide)
  obtain ⟨k, bb, σ', τ', f', hRR, hk0, hkb, hw1, hm1⟩ := okc_use (k_state (xs (nI i + 1).toNatClampNeg) hR) f
  have hRR := RR_lim hRR (Nat.le_add_right lim 1000)
  refine lv_aload_n hC.2.1.1 hC.2.1.2.1 dL_law_370 rfl (lv_at hl 1 rfl) ?_
  refine lv_aload_n hC.2.1.1 hC.2.1.2.1 dL_law_371 rfl (lv_at hl 0 rfl) ?_
  refine lv_iload hC.2.1.1 hC.2.1.2.1 dL_law_372 (lv_at hl 4 rfl) ?_
  refine lv_iconst (v := 1) hC.2.1.1 hC.2.1.2.1 dL_law_374 (by decide) ?_
  refine lv_iadd hC.2.1.1 hC.2.1.2.1 dL_law_375 ?_
  refine va_sld hC.2.1.1 hC.2.1.2.1 hX hbl hbA hw.2.2.2 hin1 dL_law_376 ?_
  refine lv_aload_n hC.2.1.1 hC.2.1.2.1 dL_law_377 rfl (lv_at hl 3 rfl) ?_
  refine lcW (rest := []) (As := [.ref (gAd G 0), .int (xs (nI i + 1).toNatClampNeg), .ref o]) hC.2.1 hC.2.2.2.1 hC.2.2.2.2.1 hC.2.2.2.2.2 hml hl.1 hw (w_state hC.2.2.2.2.2.1.1 l hC.1.2 hC.2.2.2.2.2.oOk (xs (nI i + 1).toNatClampNeg) σ f (fun k1 σ1 f1 => k1 = k ∧ σ1 = σ' ∧ f1 = f') (x_of_state (hw1 (fun k1 σ1 f1 => k1 = k ∧ σ1 = σ' ∧ f1 = f') ⟨rfl, rfl, rfl⟩))) lu51 lu52 lu53 lu3 (k := 3) (by decide +kernel) (by decide) rfl rfl (Nat.le_of_ble_eq_true rfl) dL_law_378 hcs (fun r σ1 f1 H locs hq hw => ?_)
  obtain ⟨e1, e2, e3⟩ := hq
  rw [e2, e3] at hw
  rw [e1]
  refine lv_istore (lv' := [(5, .int k), (0, .ref b), (1, .ref (gAd G 0)), (2, .ref (gAd Gm 0)), (3, .ref o), (4, .int (nI i))]) hC.2.1.1 hC.2.1.2.1 dL_law_381 hl (by decide) rfl (fun ls hl => ?_)
  refine lv_aload_n hC.2.1.1 hC.2.1.2.1 dL_law_383 rfl (lv_at hl 3 rfl) ?_
  refine lv_aload_n hC.2.1.1 hC.2.1.2.1 dL_law_384 rfl (lv_at hl 1 rfl) ?_
  refine lv_iload hC.2.1.1 hC.2.1.2.1 dL_law_385 (lv_at hl 5 rfl) ?_
  refine lv_iconst (v := 1) hC.2.1.1 hC.2.1.2.1 dL_law_387 (by decide) ?_
  refine lv_iadd hC.2.1.1 hC.2.1.2.1 dL_law_388 ?_
  refine va_sld hC.2.1.1 hC.2.1.2.1 hX hbl hbA hw.2.2.2 hin1 dL_law_389 ?_
  refine lcM (rest := []) (As := [.int (xs (nI i + 1).toNatClampNeg)]) hC.2.2.1 hC.2.2.2.2.2 hml hl.1 hw (c_X11_state hC.2.2.2.2.2.1.2 l (xs (nI i + 1).toNatClampNeg) τ (fun r1 τ1 => r1 = bb ∧ τ1 = τ') (hm1 _ ⟨rfl, rfl⟩)) lu54 lu57 lu55 lu56 lu7 rfl (k := 1) (by decide +kernel) (by decide) rfl rfl (Nat.le_of_ble_eq_true rfl) dL_law_390 hcs (fun r τ1 H locs hq hw => ?_)
  obtain ⟨e1, e2⟩ := hq
  rw [e2] at hw
  rw [e1]
  refine lv_istore (lv' := [(6, .int bb), (5, .int k), (0, .ref b), (1, .ref (gAd G 0)), (2, .ref (gAd Gm 0)), (3, .ref o), (4, .int (nI i))]) hC.2.1.1 hC.2.1.2.1 dL_law_393 hl (by decide) rfl (fun ls hl => ?_)
  refine lv_aload_n hC.2.1.1 hC.2.1.2.1 dL_law_395 rfl (lv_at hl 4 rfl) ?_
  refine lcM (rest := []) (As := []) hC.2.2.1 hC.2.2.2.2.2 hml hl.1 hw (c_X11_thrown hC.2.2.2.2.2.1.2 l τ' (fun r1 τ1 => r1 = k ∧ τ1 = τ') ⟨hk0, rfl⟩) lu9 lu12 lu10 lu11 lu7 rfl (k := 0) (by decide +kernel) (by decide) rfl rfl (Nat.le_of_ble_eq_true rfl) dL_law_396 hcs (fun r τ1 H locs hq hw => ?_)
  obtain ⟨e1, e2⟩ := hq
  rw [e2] at hw
  rw [e1]
  refine lv_iload hC.2.1.1 hC.2.1.2.1 dL_law_399 (lv_at hl 1 rfl) ?_
  refine lv_icmp_eq (tgt := 406) hC.2.1.1 hC.2.1.2.1 dL_law_401 (by decide) (fun _ => ?_) (fun z => absurd rfl z)
  refine lv_iload hC.2.1.1 hC.2.1.2.1 dL_law_406 (lv_at hl 1 rfl) ?_
  have fin : W p l e room_1 s m #[Value.ref b] below meth c H locs (cells + 1) (slots + 6) (lw_Z below #[Value.ref b] s) (F0 m 423 ls []) := by
    refine lv_goto (tgt := 706) hC.2.1.1 hC.2.1.2.1 dL_law_423 (by decide) ?_
    exact hK σ' τ' f' _ _ _ hRR hw (lv_sub hl [2, 3, 4, 5, 6] rfl)
  refine lv_if_ne (tgt := 423) hC.2.1.1 hC.2.1.2.1 dL_law_408 (by decide) (fun _ => fin) (fun z0 => ?_)
  refine lv_aload_n hC.2.1.1 hC.2.1.2.1 dL_law_411 rfl (lv_at hl 5 rfl) ?_
  refine lv_iconst (v := 0) hC.2.1.1 hC.2.1.2.1 dL_law_412 (by decide) ?_
  refine lcLd hC.2.1 hC.2.2.2.2.1 hw dL_law_413 ?_
  refine lv_iload hC.2.1.1 hC.2.1.2.1 dL_law_414 (lv_at hl 0 rfl) ?_
  refine lv_i2l (v := bb.toInt64) hC.2.1.1 hC.2.1.2.1 dL_law_416 rfl ?_
  refine W.lcmp hC.2.1.1 hC.2.1.2.1 dL_law_417 ?_
  exact lv_if_eq (tgt := 423) hC.2.1.1 hC.2.1.2.1 dL_law_418 (by decide) (fun _ => fin) (fun z => absurd (by rw [hkb z0]; exact lgc_self _) z)
set_option maxRecDepth 20000 in
set_option maxHeartbeats 4000000 in
theorem law_output {p : Program} {l : Launch} {e : Env} {s : State} {m : MethodId} {below : List Frame} {meth : Method} {c : Code} {H : Heap} {locs : List Loc} {cells slots : Nat} {ls : Array Slot} {G Gm : GG} {cJ : ClassId} {o b L i lim : Nat} {xs : Nat → Int32} {σ τ : S9} {f : Nat → Int64} (hC : LEv G Gm cJ o l p s m meth c b L xs) (hi : i + 6 ≤ L) (hL : L ≤ 3072) (hlim : lim + 1000 < 1000000) (hR : RR σ τ lim) (hw : LH G Gm cJ o σ τ f s H locs) (hcs : cells + 1 ≤ 1104 ∧ slots + 6 ≤ 57197) (hl : lv_has ls 7 [(0, .ref b), (1, .ref (gAd G 0)), (2, .ref (gAd Gm 0)), (3, .ref o), (4, .int (nI i))])
    (hK : ∀ (σ τ : S9) (f : Nat → Int64) (H : Heap) (locs : List Loc) (ls : Array Slot), RR σ τ (lim + 1000) → LH G Gm cJ o σ τ f s H locs → lv_has ls 7 [(0, .ref b), (1, .ref (gAd G 0)), (2, .ref (gAd Gm 0)), (3, .ref o), (4, .int (nI i))] → W p l e room_1 s m #[Value.ref b] below meth c H locs (cells + 1) (slots + 6) (lw_Z below #[Value.ref b] s) (F0 m 706 ls [])) : W p l e room_1 s m #[Value.ref b] below meth c H locs cells slots (lw_Z below #[Value.ref b] s) (F0 m 426 ls []) := by
  obtain ⟨-, -, -, hml, -, -, hX, hbl, -, -⟩ := hC.1.1
  have hbA : ¬ LR s b := Nat.not_le.mpr hbl
  have hcs0 : cells ≤ 1104 ∧ slots ≤ 57197 := ⟨by omega, by omega⟩
  have hin1 : vp_in (nI i + 1) L := lin hi hL (by decide)
  obtain ⟨k, bb, σ', τ', f', hRR, hk0, hkb, hw1, hm1⟩ := okc_use (k_output (xs (nI i + 1).toNatClampNeg) hR (by omega)) f
  have hRR := RR_lim hRR (Nat.le_add_right lim 1000)
  refine lv_aload_n hC.2.1.1 hC.2.1.2.1 dL_law_426 rfl (lv_at hl 1 rfl) ?_
  refine lv_aload_n hC.2.1.1 hC.2.1.2.1 dL_law_427 rfl (lv_at hl 0 rfl) ?_
  refine lv_iload hC.2.1.1 hC.2.1.2.1 dL_law_428 (lv_at hl 4 rfl) ?_
  refine lv_iconst (v := 1) hC.2.1.1 hC.2.1.2.1 dL_law_430 (by decide) ?_
  refine lv_iadd hC.2.1.1 hC.2.1.2.1 dL_law_431 ?_
  refine va_sld hC.2.1.1 hC.2.1.2.1 hX hbl hbA hw.2.2.2 hin1 dL_law_432 ?_
  refine lv_aload_n hC.2.1.1 hC.2.1.2.1 dL_law_433 rfl (lv_at hl 3 rfl) ?_
  refine lcW (rest := []) (As := [.ref (gAd G 0), .int (xs (nI i + 1).toNatClampNeg), .ref o]) hC.2.1 hC.2.2.2.1 hC.2.2.2.2.1 hC.2.2.2.2.2 hml hl.1 hw (w_output hC.2.2.2.2.2.1.1 l hC.1.2 hC.2.2.2.2.2.oOk (xs (nI i + 1).toNatClampNeg) σ f (fun k1 σ1 f1 => k1 = k ∧ σ1 = σ' ∧ f1 = f') (x_of_output (hw1 (fun k1 σ1 f1 => k1 = k ∧ σ1 = σ' ∧ f1 = f') ⟨rfl, rfl, rfl⟩))) lu58 lu59 lu60 lu3 (k := 3) (by decide +kernel) (by decide) rfl rfl (Nat.le_of_ble_eq_true rfl) dL_law_434 hcs (fun r σ1 f1 H locs hq hw => ?_)
  obtain ⟨e1, e2, e3⟩ := hq
  rw [e2, e3] at hw
  rw [e1]
  refine lv_istore (lv' := [(5, .int k), (0, .ref b), (1, .ref (gAd G 0)), (2, .ref (gAd Gm 0)), (3, .ref o), (4, .int (nI i))]) hC.2.1.1 hC.2.1.2.1 dL_law_437 hl (by decide) rfl (fun ls hl => ?_)
  refine lv_aload_n hC.2.1.1 hC.2.1.2.1 dL_law_439 rfl (lv_at hl 3 rfl) ?_
  refine lv_aload_n hC.2.1.1 hC.2.1.2.1 dL_law_440 rfl (lv_at hl 1 rfl) ?_
  refine lv_iload hC.2.1.1 hC.2.1.2.1 dL_law_441 (lv_at hl 5 rfl) ?_
  refine lv_iconst (v := 1) hC.2.1.1 hC.2.1.2.1 dL_law_443 (by decide) ?_
  refine lv_iadd hC.2.1.1 hC.2.1.2.1 dL_law_444 ?_
  refine va_sld hC.2.1.1 hC.2.1.2.1 hX hbl hbA hw.2.2.2 hin1 dL_law_445 ?_
  refine lcM (rest := []) (As := [.int (xs (nI i + 1).toNatClampNeg)]) hC.2.2.1 hC.2.2.2.2.2 hml hl.1 hw (c_X11_output hC.2.2.2.2.2.1.2 l (xs (nI i + 1).toNatClampNeg) τ (fun r1 τ1 => r1 = bb ∧ τ1 = τ') (hm1 _ ⟨rfl, rfl⟩)) lu61 lu64 lu62 lu63 lu7 rfl (k := 1) (by decide +kernel) (by decide) rfl rfl (Nat.le_of_ble_eq_true rfl) dL_law_446 hcs (fun r τ1 H locs hq hw => ?_)
  obtain ⟨e1, e2⟩ := hq
  rw [e2] at hw
  rw [e1]
  refine lv_istore (lv' := [(6, .int bb), (5, .int k), (0, .ref b), (1, .ref (gAd G 0)), (2, .ref (gAd Gm 0)), (3, .ref o), (4, .int (nI i))]) hC.2.1.1 hC.2.1.2.1 dL_law_449 hl (by decide) rfl (fun ls hl => ?_)
  refine lv_aload_n hC.2.1.1 hC.2.1.2.1 dL_law_451 rfl (lv_at hl 4 rfl) ?_
  refine lcM (rest := []) (As := []) hC.2.2.1 hC.2.2.2.2.2 hml hl.1 hw (c_X11_thrown hC.2.2.2.2.2.1.2 l τ' (fun r1 τ1 => r1 = k ∧ τ1 = τ') ⟨hk0, rfl⟩) lu9 lu12 lu10 lu11 lu7 rfl (k := 0) (by decide +kernel) (by decide) rfl rfl (Nat.le_of_ble_eq_true rfl) dL_law_452 hcs (fun r τ1 H locs hq hw => ?_)
  obtain ⟨e1, e2⟩ := hq
  rw [e2] at hw
  rw [e1]
  refine lv_iload hC.2.1.1 hC.2.1.2.1 dL_law_455 (lv_at hl 1 rfl) ?_
  refine lv_icmp_eq (tgt := 462) hC.2.1.1 hC.2.1.2.1 dL_law_457 (by decide) (fun _ => ?_) (fun z => absurd rfl z)
  refine lv_iload hC.2.1.1 hC.2.1.2.1 dL_law_462 (lv_at hl 1 rfl) ?_
  have fin : W p l e room_1 s m #[Value.ref b] below meth c H locs (cells + 1) (slots + 6) (lw_Z below #[Value.ref b] s) (F0 m 479 ls []) := by
    refine lv_goto (tgt := 706) hC.2.1.1 hC.2.1.2.1 dL_law_479 (by decide) ?_
    exact hK σ' τ' f' _ _ _ hRR hw (lv_sub hl [2, 3, 4, 5, 6] rfl)
  refine lv_if_ne (tgt := 479) hC.2.1.1 hC.2.1.2.1 dL_law_464 (by decide) (fun _ => fin) (fun z0 => ?_)
  refine lv_aload_n hC.2.1.1 hC.2.1.2.1 dL_law_467 rfl (lv_at hl 5 rfl) ?_
  refine lv_iconst (v := 0) hC.2.1.1 hC.2.1.2.1 dL_law_468 (by decide) ?_
  refine lcLd hC.2.1 hC.2.2.2.2.1 hw dL_law_469 ?_
  refine lv_iload hC.2.1.1 hC.2.1.2.1 dL_law_470 (lv_at hl 0 rfl) ?_
  refine lv_i2l (v := bb.toInt64) hC.2.1.1 hC.2.1.2.1 dL_law_472 rfl ?_
  refine W.lcmp hC.2.1.1 hC.2.1.2.1 dL_law_473 ?_
  exact lv_if_eq (tgt := 479) hC.2.1.1 hC.2.1.2.1 dL_law_474 (by decide) (fun _ => fin) (fun z => absurd (by rw [hkb z0]; exact lgc_self _) z)
set_option maxRecDepth 20000 in
set_option maxHeartbeats 4000000 in
theorem law_name {p : Program} {l : Launch} {e : Env} {s : State} {m : MethodId} {below : List Frame} {meth : Method} {c : Code} {H : Heap} {locs : List Loc} {cells slots : Nat} {ls : Array Slot} {G Gm : GG} {cJ : ClassId} {o b L i lim : Nat} {xs : Nat → Int32} {σ τ : S9} {f : Nat → Int64} (hC : LEv G Gm cJ o l p s m meth c b L xs) (hi : i + 6 ≤ L) (hL : L ≤ 3072) (hlim : lim + 1000 < 1000000) (hR : RR σ τ lim) (hw : LH G Gm cJ o σ τ f s H locs) (hcs : cells + 1 ≤ 1104 ∧ slots + 6 ≤ 57197) (hl : lv_has ls 7 [(0, .ref b), (1, .ref (gAd G 0)), (2, .ref (gAd Gm 0)), (3, .ref o), (4, .int (nI i))])
    (hK : ∀ (σ τ : S9) (f : Nat → Int64) (H : Heap) (locs : List Loc) (ls : Array Slot), RR σ τ (lim + 1000) → LH G Gm cJ o σ τ f s H locs → lv_has ls 7 [(0, .ref b), (1, .ref (gAd G 0)), (2, .ref (gAd Gm 0)), (3, .ref o), (4, .int (nI i))] → W p l e room_1 s m #[Value.ref b] below meth c H locs (cells + 1) (slots + 6) (lw_Z below #[Value.ref b] s) (F0 m 706 ls [])) : W p l e room_1 s m #[Value.ref b] below meth c H locs cells slots (lw_Z below #[Value.ref b] s) (F0 m 482 ls []) := by
  obtain ⟨-, -, -, hml, -, -, hX, hbl, -, -⟩ := hC.1.1
  have hbA : ¬ LR s b := Nat.not_le.mpr hbl
  have hcs0 : cells ≤ 1104 ∧ slots ≤ 57197 := ⟨by omega, by omega⟩
  have hin1 : vp_in (nI i + 1) L := lin hi hL (by decide)
  obtain ⟨k, bb, σ', τ', f', hRR, hk0, hkb, hw1, hm1⟩ := okc_use (k_name (xs (nI i + 1).toNatClampNeg) hR) f
  have hRR := RR_lim hRR (Nat.le_add_right lim 1000)
  refine lv_aload_n hC.2.1.1 hC.2.1.2.1 dL_law_482 rfl (lv_at hl 1 rfl) ?_
  refine lv_aload_n hC.2.1.1 hC.2.1.2.1 dL_law_483 rfl (lv_at hl 0 rfl) ?_
  refine lv_iload hC.2.1.1 hC.2.1.2.1 dL_law_484 (lv_at hl 4 rfl) ?_
  refine lv_iconst (v := 1) hC.2.1.1 hC.2.1.2.1 dL_law_486 (by decide) ?_
  refine lv_iadd hC.2.1.1 hC.2.1.2.1 dL_law_487 ?_
  refine va_sld hC.2.1.1 hC.2.1.2.1 hX hbl hbA hw.2.2.2 hin1 dL_law_488 ?_
  refine lv_aload_n hC.2.1.1 hC.2.1.2.1 dL_law_489 rfl (lv_at hl 3 rfl) ?_
  refine lcW (rest := []) (As := [.ref (gAd G 0), .int (xs (nI i + 1).toNatClampNeg), .ref o]) hC.2.1 hC.2.2.2.1 hC.2.2.2.2.1 hC.2.2.2.2.2 hml hl.1 hw (w_name hC.2.2.2.2.2.1.1 l hC.1.2 hC.2.2.2.2.2.oOk (xs (nI i + 1).toNatClampNeg) σ f (fun k1 σ1 f1 => k1 = k ∧ σ1 = σ' ∧ f1 = f') (x_of_name (hw1 (fun k1 σ1 f1 => k1 = k ∧ σ1 = σ' ∧ f1 = f') ⟨rfl, rfl, rfl⟩))) lu65 lu66 lu67 lu3 (k := 3) (by decide +kernel) (by decide) rfl rfl (Nat.le_of_ble_eq_true rfl) dL_law_490 hcs (fun r σ1 f1 H locs hq hw => ?_)
  obtain ⟨e1, e2, e3⟩ := hq
  rw [e2, e3] at hw
  rw [e1]
  refine lv_istore (lv' := [(5, .int k), (0, .ref b), (1, .ref (gAd G 0)), (2, .ref (gAd Gm 0)), (3, .ref o), (4, .int (nI i))]) hC.2.1.1 hC.2.1.2.1 dL_law_493 hl (by decide) rfl (fun ls hl => ?_)
  refine lv_aload_n hC.2.1.1 hC.2.1.2.1 dL_law_495 rfl (lv_at hl 3 rfl) ?_
  refine lv_aload_n hC.2.1.1 hC.2.1.2.1 dL_law_496 rfl (lv_at hl 1 rfl) ?_
  refine lv_iload hC.2.1.1 hC.2.1.2.1 dL_law_497 (lv_at hl 5 rfl) ?_
  refine lv_iconst (v := 1) hC.2.1.1 hC.2.1.2.1 dL_law_499 (by decide) ?_
  refine lv_iadd hC.2.1.1 hC.2.1.2.1 dL_law_500 ?_
  refine va_sld hC.2.1.1 hC.2.1.2.1 hX hbl hbA hw.2.2.2 hin1 dL_law_501 ?_
  refine lcM (rest := []) (As := [.int (xs (nI i + 1).toNatClampNeg)]) hC.2.2.1 hC.2.2.2.2.2 hml hl.1 hw (c_X11_name hC.2.2.2.2.2.1.2 l (xs (nI i + 1).toNatClampNeg) τ (fun r1 τ1 => r1 = bb ∧ τ1 = τ') (hm1 _ ⟨rfl, rfl⟩)) lu68 lu71 lu69 lu70 lu7 rfl (k := 1) (by decide +kernel) (by decide) rfl rfl (Nat.le_of_ble_eq_true rfl) dL_law_502 hcs (fun r τ1 H locs hq hw => ?_)
  obtain ⟨e1, e2⟩ := hq
  rw [e2] at hw
  rw [e1]
  refine lv_istore (lv' := [(6, .int bb), (5, .int k), (0, .ref b), (1, .ref (gAd G 0)), (2, .ref (gAd Gm 0)), (3, .ref o), (4, .int (nI i))]) hC.2.1.1 hC.2.1.2.1 dL_law_505 hl (by decide) rfl (fun ls hl => ?_)
  refine lv_aload_n hC.2.1.1 hC.2.1.2.1 dL_law_507 rfl (lv_at hl 4 rfl) ?_
  refine lcM (rest := []) (As := []) hC.2.2.1 hC.2.2.2.2.2 hml hl.1 hw (c_X11_thrown hC.2.2.2.2.2.1.2 l τ' (fun r1 τ1 => r1 = k ∧ τ1 = τ') ⟨hk0, rfl⟩) lu9 lu12 lu10 lu11 lu7 rfl (k := 0) (by decide +kernel) (by decide) rfl rfl (Nat.le_of_ble_eq_true rfl) dL_law_508 hcs (fun r τ1 H locs hq hw => ?_)
  obtain ⟨e1, e2⟩ := hq
  rw [e2] at hw
  rw [e1]
  refine lv_iload hC.2.1.1 hC.2.1.2.1 dL_law_511 (lv_at hl 1 rfl) ?_
  refine lv_icmp_eq (tgt := 518) hC.2.1.1 hC.2.1.2.1 dL_law_513 (by decide) (fun _ => ?_) (fun z => absurd rfl z)
  refine lv_iload hC.2.1.1 hC.2.1.2.1 dL_law_518 (lv_at hl 1 rfl) ?_
  have fin : W p l e room_1 s m #[Value.ref b] below meth c H locs (cells + 1) (slots + 6) (lw_Z below #[Value.ref b] s) (F0 m 535 ls []) := by
    refine lv_goto (tgt := 706) hC.2.1.1 hC.2.1.2.1 dL_law_535 (by decide) ?_
    exact hK σ' τ' f' _ _ _ hRR hw (lv_sub hl [2, 3, 4, 5, 6] rfl)
  refine lv_if_ne (tgt := 535) hC.2.1.1 hC.2.1.2.1 dL_law_520 (by decide) (fun _ => fin) (fun z0 => ?_)
  refine lv_aload_n hC.2.1.1 hC.2.1.2.1 dL_law_523 rfl (lv_at hl 5 rfl) ?_
  refine lv_iconst (v := 0) hC.2.1.1 hC.2.1.2.1 dL_law_524 (by decide) ?_
  refine lcLd hC.2.1 hC.2.2.2.2.1 hw dL_law_525 ?_
  refine lv_iload hC.2.1.1 hC.2.1.2.1 dL_law_526 (lv_at hl 0 rfl) ?_
  refine lv_i2l (v := bb.toInt64) hC.2.1.1 hC.2.1.2.1 dL_law_528 rfl ?_
  refine W.lcmp hC.2.1.1 hC.2.1.2.1 dL_law_529 ?_
  exact lv_if_eq (tgt := 535) hC.2.1.1 hC.2.1.2.1 dL_law_530 (by decide) (fun _ => fin) (fun z => absurd (by rw [hkb z0]; exact lgc_self _) z)
set_option maxRecDepth 20000 in
set_option maxHeartbeats 4000000 in
theorem law_cell {p : Program} {l : Launch} {e : Env} {s : State} {m : MethodId} {below : List Frame} {meth : Method} {c : Code} {H : Heap} {locs : List Loc} {cells slots : Nat} {ls : Array Slot} {G Gm : GG} {cJ : ClassId} {o b L i lim : Nat} {xs : Nat → Int32} {σ τ : S9} {f : Nat → Int64} (hC : LEv G Gm cJ o l p s m meth c b L xs) (hi : i + 6 ≤ L) (hL : L ≤ 3072) (hlim : lim + 1000 < 1000000) (hR : RR σ τ lim) (hw : LH G Gm cJ o σ τ f s H locs) (hcs : cells + 1 ≤ 1104 ∧ slots + 6 ≤ 57197) (hl : lv_has ls 7 [(0, .ref b), (1, .ref (gAd G 0)), (2, .ref (gAd Gm 0)), (3, .ref o), (4, .int (nI i))])
    (hK : ∀ (σ τ : S9) (f : Nat → Int64) (H : Heap) (locs : List Loc) (ls : Array Slot), RR σ τ (lim + 1000) → LH G Gm cJ o σ τ f s H locs → lv_has ls 7 [(0, .ref b), (1, .ref (gAd G 0)), (2, .ref (gAd Gm 0)), (3, .ref o), (4, .int (nI i))] → W p l e room_1 s m #[Value.ref b] below meth c H locs (cells + 1) (slots + 6) (lw_Z below #[Value.ref b] s) (F0 m 706 ls [])) : W p l e room_1 s m #[Value.ref b] below meth c H locs cells slots (lw_Z below #[Value.ref b] s) (F0 m 538 ls []) := by
  obtain ⟨-, -, -, hml, -, -, hX, hbl, -, -⟩ := hC.1.1
  have hbA : ¬ LR s b := Nat.not_le.mpr hbl
  have hcs0 : cells ≤ 1104 ∧ slots ≤ 57197 := ⟨by omega, by omega⟩
  have hin1 : vp_in (nI i + 1) L := lin hi hL (by decide)
  obtain ⟨k, bb, σ', τ', f', hRR, hk0, hkb, hw1, hm1⟩ := okc_use (k_cell (xs (nI i + 1).toNatClampNeg) hR) f
  have hRR := RR_lim hRR (Nat.le_add_right lim 1000)
  refine lv_aload_n hC.2.1.1 hC.2.1.2.1 dL_law_538 rfl (lv_at hl 1 rfl) ?_
  refine lv_aload_n hC.2.1.1 hC.2.1.2.1 dL_law_539 rfl (lv_at hl 0 rfl) ?_
  refine lv_iload hC.2.1.1 hC.2.1.2.1 dL_law_540 (lv_at hl 4 rfl) ?_
  refine lv_iconst (v := 1) hC.2.1.1 hC.2.1.2.1 dL_law_542 (by decide) ?_
  refine lv_iadd hC.2.1.1 hC.2.1.2.1 dL_law_543 ?_
  refine va_sld hC.2.1.1 hC.2.1.2.1 hX hbl hbA hw.2.2.2 hin1 dL_law_544 ?_
  refine lv_aload_n hC.2.1.1 hC.2.1.2.1 dL_law_545 rfl (lv_at hl 3 rfl) ?_
  refine lcW (rest := []) (As := [.ref (gAd G 0), .int (xs (nI i + 1).toNatClampNeg), .ref o]) hC.2.1 hC.2.2.2.1 hC.2.2.2.2.1 hC.2.2.2.2.2 hml hl.1 hw (w_cell hC.2.2.2.2.2.1.1 l hC.1.2 hC.2.2.2.2.2.oOk (xs (nI i + 1).toNatClampNeg) σ f (fun k1 σ1 f1 => k1 = k ∧ σ1 = σ' ∧ f1 = f') (x_of_cell (hw1 (fun k1 σ1 f1 => k1 = k ∧ σ1 = σ' ∧ f1 = f') ⟨rfl, rfl, rfl⟩))) lu72 lu73 lu74 lu3 (k := 3) (by decide +kernel) (by decide) rfl rfl (Nat.le_of_ble_eq_true rfl) dL_law_546 hcs (fun r σ1 f1 H locs hq hw => ?_)
  obtain ⟨e1, e2, e3⟩ := hq
  rw [e2, e3] at hw
  rw [e1]
  refine lv_istore (lv' := [(5, .int k), (0, .ref b), (1, .ref (gAd G 0)), (2, .ref (gAd Gm 0)), (3, .ref o), (4, .int (nI i))]) hC.2.1.1 hC.2.1.2.1 dL_law_549 hl (by decide) rfl (fun ls hl => ?_)
  refine lv_aload_n hC.2.1.1 hC.2.1.2.1 dL_law_551 rfl (lv_at hl 3 rfl) ?_
  refine lv_aload_n hC.2.1.1 hC.2.1.2.1 dL_law_552 rfl (lv_at hl 1 rfl) ?_
  refine lv_iload hC.2.1.1 hC.2.1.2.1 dL_law_553 (lv_at hl 5 rfl) ?_
  refine lv_iconst (v := 1) hC.2.1.1 hC.2.1.2.1 dL_law_555 (by decide) ?_
  refine lv_iadd hC.2.1.1 hC.2.1.2.1 dL_law_556 ?_
  refine va_sld hC.2.1.1 hC.2.1.2.1 hX hbl hbA hw.2.2.2 hin1 dL_law_557 ?_
  refine lcM (rest := []) (As := [.int (xs (nI i + 1).toNatClampNeg)]) hC.2.2.1 hC.2.2.2.2.2 hml hl.1 hw (c_X11_cell hC.2.2.2.2.2.1.2 l (xs (nI i + 1).toNatClampNeg) τ (fun r1 τ1 => r1 = bb ∧ τ1 = τ') (hm1 _ ⟨rfl, rfl⟩)) lu75 lu78 lu76 lu77 lu7 rfl (k := 1) (by decide +kernel) (by decide) rfl rfl (Nat.le_of_ble_eq_true rfl) dL_law_558 hcs (fun r τ1 H locs hq hw => ?_)
  obtain ⟨e1, e2⟩ := hq
  rw [e2] at hw
  rw [e1]
  refine lv_istore (lv' := [(6, .int bb), (5, .int k), (0, .ref b), (1, .ref (gAd G 0)), (2, .ref (gAd Gm 0)), (3, .ref o), (4, .int (nI i))]) hC.2.1.1 hC.2.1.2.1 dL_law_561 hl (by decide) rfl (fun ls hl => ?_)
  refine lv_aload_n hC.2.1.1 hC.2.1.2.1 dL_law_563 rfl (lv_at hl 4 rfl) ?_
  refine lcM (rest := []) (As := []) hC.2.2.1 hC.2.2.2.2.2 hml hl.1 hw (c_X11_thrown hC.2.2.2.2.2.1.2 l τ' (fun r1 τ1 => r1 = k ∧ τ1 = τ') ⟨hk0, rfl⟩) lu9 lu12 lu10 lu11 lu7 rfl (k := 0) (by decide +kernel) (by decide) rfl rfl (Nat.le_of_ble_eq_true rfl) dL_law_564 hcs (fun r τ1 H locs hq hw => ?_)
  obtain ⟨e1, e2⟩ := hq
  rw [e2] at hw
  rw [e1]
  refine lv_iload hC.2.1.1 hC.2.1.2.1 dL_law_567 (lv_at hl 1 rfl) ?_
  refine lv_icmp_eq (tgt := 574) hC.2.1.1 hC.2.1.2.1 dL_law_569 (by decide) (fun _ => ?_) (fun z => absurd rfl z)
  refine lv_iload hC.2.1.1 hC.2.1.2.1 dL_law_574 (lv_at hl 1 rfl) ?_
  have fin : W p l e room_1 s m #[Value.ref b] below meth c H locs (cells + 1) (slots + 6) (lw_Z below #[Value.ref b] s) (F0 m 591 ls []) := by
    refine lv_goto (tgt := 706) hC.2.1.1 hC.2.1.2.1 dL_law_591 (by decide) ?_
    exact hK σ' τ' f' _ _ _ hRR hw (lv_sub hl [2, 3, 4, 5, 6] rfl)
  refine lv_if_ne (tgt := 591) hC.2.1.1 hC.2.1.2.1 dL_law_576 (by decide) (fun _ => fin) (fun z0 => ?_)
  refine lv_aload_n hC.2.1.1 hC.2.1.2.1 dL_law_579 rfl (lv_at hl 5 rfl) ?_
  refine lv_iconst (v := 0) hC.2.1.1 hC.2.1.2.1 dL_law_580 (by decide) ?_
  refine lcLd hC.2.1 hC.2.2.2.2.1 hw dL_law_581 ?_
  refine lv_iload hC.2.1.1 hC.2.1.2.1 dL_law_582 (lv_at hl 0 rfl) ?_
  refine lv_i2l (v := bb.toInt64) hC.2.1.1 hC.2.1.2.1 dL_law_584 rfl ?_
  refine W.lcmp hC.2.1.1 hC.2.1.2.1 dL_law_585 ?_
  exact lv_if_eq (tgt := 591) hC.2.1.1 hC.2.1.2.1 dL_law_586 (by decide) (fun _ => fin) (fun z => absurd (by rw [hkb z0]; exact lgc_self _) z)
set_option maxRecDepth 20000 in
set_option maxHeartbeats 4000000 in
theorem law_terms {p : Program} {l : Launch} {e : Env} {s : State} {m : MethodId} {below : List Frame} {meth : Method} {c : Code} {H : Heap} {locs : List Loc} {cells slots : Nat} {ls : Array Slot} {G Gm : GG} {cJ : ClassId} {o b L i lim : Nat} {xs : Nat → Int32} {σ τ : S9} {f : Nat → Int64} (hC : LEv G Gm cJ o l p s m meth c b L xs) (hi : i + 6 ≤ L) (hL : L ≤ 3072) (hlim : lim + 1000 < 1000000) (hR : RR σ τ lim) (hw : LH G Gm cJ o σ τ f s H locs) (hcs : cells + 1 ≤ 1104 ∧ slots + 6 ≤ 57197) (hl : lv_has ls 7 [(0, .ref b), (1, .ref (gAd G 0)), (2, .ref (gAd Gm 0)), (3, .ref o), (4, .int (nI i))])
    (hK : ∀ (σ τ : S9) (f : Nat → Int64) (H : Heap) (locs : List Loc) (ls : Array Slot), RR σ τ (lim + 1000) → LH G Gm cJ o σ τ f s H locs → lv_has ls 7 [(0, .ref b), (1, .ref (gAd G 0)), (2, .ref (gAd Gm 0)), (3, .ref o), (4, .int (nI i))] → W p l e room_1 s m #[Value.ref b] below meth c H locs (cells + 1) (slots + 6) (lw_Z below #[Value.ref b] s) (F0 m 706 ls [])) : W p l e room_1 s m #[Value.ref b] below meth c H locs cells slots (lw_Z below #[Value.ref b] s) (F0 m 594 ls []) := by
  obtain ⟨-, -, -, hml, -, -, hX, hbl, -, -⟩ := hC.1.1
  have hbA : ¬ LR s b := Nat.not_le.mpr hbl
  have hcs0 : cells ≤ 1104 ∧ slots ≤ 57197 := ⟨by omega, by omega⟩
  have hin1 : vp_in (nI i + 1) L := lin hi hL (by decide)
  obtain ⟨k, bb, σ', τ', f', hRR, hk0, hkb, hw1, hm1⟩ := okc_use (k_terms (xs (nI i + 1).toNatClampNeg) hR) f
  have hRR := RR_lim hRR (Nat.le_add_right lim 1000)
  refine lv_aload_n hC.2.1.1 hC.2.1.2.1 dL_law_594 rfl (lv_at hl 1 rfl) ?_
  refine lv_aload_n hC.2.1.1 hC.2.1.2.1 dL_law_595 rfl (lv_at hl 0 rfl) ?_
  refine lv_iload hC.2.1.1 hC.2.1.2.1 dL_law_596 (lv_at hl 4 rfl) ?_
  refine lv_iconst (v := 1) hC.2.1.1 hC.2.1.2.1 dL_law_598 (by decide) ?_
  refine lv_iadd hC.2.1.1 hC.2.1.2.1 dL_law_599 ?_
  refine va_sld hC.2.1.1 hC.2.1.2.1 hX hbl hbA hw.2.2.2 hin1 dL_law_600 ?_
  refine lv_aload_n hC.2.1.1 hC.2.1.2.1 dL_law_601 rfl (lv_at hl 3 rfl) ?_
  refine lcW (rest := []) (As := [.ref (gAd G 0), .int (xs (nI i + 1).toNatClampNeg), .ref o]) hC.2.1 hC.2.2.2.1 hC.2.2.2.2.1 hC.2.2.2.2.2 hml hl.1 hw (w_terms hC.2.2.2.2.2.1.1 l hC.1.2 hC.2.2.2.2.2.oOk (xs (nI i + 1).toNatClampNeg) σ f (fun k1 σ1 f1 => k1 = k ∧ σ1 = σ' ∧ f1 = f') (x_of_terms (hw1 (fun k1 σ1 f1 => k1 = k ∧ σ1 = σ' ∧ f1 = f') ⟨rfl, rfl, rfl⟩))) lu79 lu80 lu81 lu3 (k := 3) (by decide +kernel) (by decide) rfl rfl (Nat.le_of_ble_eq_true rfl) dL_law_602 hcs (fun r σ1 f1 H locs hq hw => ?_)
  obtain ⟨e1, e2, e3⟩ := hq
  rw [e2, e3] at hw
  rw [e1]
  refine lv_istore (lv' := [(5, .int k), (0, .ref b), (1, .ref (gAd G 0)), (2, .ref (gAd Gm 0)), (3, .ref o), (4, .int (nI i))]) hC.2.1.1 hC.2.1.2.1 dL_law_605 hl (by decide) rfl (fun ls hl => ?_)
  refine lv_aload_n hC.2.1.1 hC.2.1.2.1 dL_law_607 rfl (lv_at hl 3 rfl) ?_
  refine lv_aload_n hC.2.1.1 hC.2.1.2.1 dL_law_608 rfl (lv_at hl 1 rfl) ?_
  refine lv_iload hC.2.1.1 hC.2.1.2.1 dL_law_609 (lv_at hl 5 rfl) ?_
  refine lv_iconst (v := 1) hC.2.1.1 hC.2.1.2.1 dL_law_611 (by decide) ?_
  refine lv_iadd hC.2.1.1 hC.2.1.2.1 dL_law_612 ?_
  refine va_sld hC.2.1.1 hC.2.1.2.1 hX hbl hbA hw.2.2.2 hin1 dL_law_613 ?_
  refine lcM (rest := []) (As := [.int (xs (nI i + 1).toNatClampNeg)]) hC.2.2.1 hC.2.2.2.2.2 hml hl.1 hw (c_X11_terms hC.2.2.2.2.2.1.2 l (xs (nI i + 1).toNatClampNeg) τ (fun r1 τ1 => r1 = bb ∧ τ1 = τ') (hm1 _ ⟨rfl, rfl⟩)) lu82 lu85 lu83 lu84 lu7 rfl (k := 1) (by decide +kernel) (by decide) rfl rfl (Nat.le_of_ble_eq_true rfl) dL_law_614 hcs (fun r τ1 H locs hq hw => ?_)
  obtain ⟨e1, e2⟩ := hq
  rw [e2] at hw
  rw [e1]
  refine lv_istore (lv' := [(6, .int bb), (5, .int k), (0, .ref b), (1, .ref (gAd G 0)), (2, .ref (gAd Gm 0)), (3, .ref o), (4, .int (nI i))]) hC.2.1.1 hC.2.1.2.1 dL_law_617 hl (by decide) rfl (fun ls hl => ?_)
  refine lv_aload_n hC.2.1.1 hC.2.1.2.1 dL_law_619 rfl (lv_at hl 4 rfl) ?_
  refine lcM (rest := []) (As := []) hC.2.2.1 hC.2.2.2.2.2 hml hl.1 hw (c_X11_thrown hC.2.2.2.2.2.1.2 l τ' (fun r1 τ1 => r1 = k ∧ τ1 = τ') ⟨hk0, rfl⟩) lu9 lu12 lu10 lu11 lu7 rfl (k := 0) (by decide +kernel) (by decide) rfl rfl (Nat.le_of_ble_eq_true rfl) dL_law_620 hcs (fun r τ1 H locs hq hw => ?_)
  obtain ⟨e1, e2⟩ := hq
  rw [e2] at hw
  rw [e1]
  refine lv_iload hC.2.1.1 hC.2.1.2.1 dL_law_623 (lv_at hl 1 rfl) ?_
  refine lv_icmp_eq (tgt := 630) hC.2.1.1 hC.2.1.2.1 dL_law_625 (by decide) (fun _ => ?_) (fun z => absurd rfl z)
  refine lv_iload hC.2.1.1 hC.2.1.2.1 dL_law_630 (lv_at hl 1 rfl) ?_
  have fin : W p l e room_1 s m #[Value.ref b] below meth c H locs (cells + 1) (slots + 6) (lw_Z below #[Value.ref b] s) (F0 m 647 ls []) := by
    refine lv_goto (tgt := 706) hC.2.1.1 hC.2.1.2.1 dL_law_647 (by decide) ?_
    exact hK σ' τ' f' _ _ _ hRR hw (lv_sub hl [2, 3, 4, 5, 6] rfl)
  refine lv_if_ne (tgt := 647) hC.2.1.1 hC.2.1.2.1 dL_law_632 (by decide) (fun _ => fin) (fun z0 => ?_)
  refine lv_aload_n hC.2.1.1 hC.2.1.2.1 dL_law_635 rfl (lv_at hl 5 rfl) ?_
  refine lv_iconst (v := 0) hC.2.1.1 hC.2.1.2.1 dL_law_636 (by decide) ?_
  refine lcLd hC.2.1 hC.2.2.2.2.1 hw dL_law_637 ?_
  refine lv_iload hC.2.1.1 hC.2.1.2.1 dL_law_638 (lv_at hl 0 rfl) ?_
  refine lv_i2l (v := bb.toInt64) hC.2.1.1 hC.2.1.2.1 dL_law_640 rfl ?_
  refine W.lcmp hC.2.1.1 hC.2.1.2.1 dL_law_641 ?_
  exact lv_if_eq (tgt := 647) hC.2.1.1 hC.2.1.2.1 dL_law_642 (by decide) (fun _ => fin) (fun z => absurd (by rw [hkb z0]; exact lgc_self _) z)
set_option maxRecDepth 20000 in
set_option maxHeartbeats 4000000 in
theorem law_count {p : Program} {l : Launch} {e : Env} {s : State} {m : MethodId} {below : List Frame} {meth : Method} {c : Code} {H : Heap} {locs : List Loc} {cells slots : Nat} {ls : Array Slot} {G Gm : GG} {cJ : ClassId} {o b L i lim : Nat} {xs : Nat → Int32} {σ τ : S9} {f : Nat → Int64} (hC : LEv G Gm cJ o l p s m meth c b L xs) (hi : i + 6 ≤ L) (hL : L ≤ 3072) (hlim : lim + 1000 < 1000000) (hR : RR σ τ lim) (hw : LH G Gm cJ o σ τ f s H locs) (hcs : cells + 1 ≤ 1104 ∧ slots + 6 ≤ 57197) (hl : lv_has ls 7 [(0, .ref b), (1, .ref (gAd G 0)), (2, .ref (gAd Gm 0)), (3, .ref o), (4, .int (nI i))])
    (hK : ∀ (σ τ : S9) (f : Nat → Int64) (H : Heap) (locs : List Loc) (ls : Array Slot), RR σ τ (lim + 1000) → LH G Gm cJ o σ τ f s H locs → lv_has ls 7 [(0, .ref b), (1, .ref (gAd G 0)), (2, .ref (gAd Gm 0)), (3, .ref o), (4, .int (nI i))] → W p l e room_1 s m #[Value.ref b] below meth c H locs (cells + 1) (slots + 6) (lw_Z below #[Value.ref b] s) (F0 m 706 ls [])) : W p l e room_1 s m #[Value.ref b] below meth c H locs cells slots (lw_Z below #[Value.ref b] s) (F0 m 650 ls []) := by
  obtain ⟨-, -, -, hml, -, -, hX, hbl, -, -⟩ := hC.1.1
  have hbA : ¬ LR s b := Nat.not_le.mpr hbl
  have hcs0 : cells ≤ 1104 ∧ slots ≤ 57197 := ⟨by omega, by omega⟩
  have hin1 : vp_in (nI i + 1) L := lin hi hL (by decide)
  obtain ⟨k, bb, σ', τ', f', hRR, hk0, hkb, hw1, hm1⟩ := okc_use (k_count (xs (nI i + 1).toNatClampNeg) hR) f
  have hRR := RR_lim hRR (Nat.le_add_right lim 1000)
  refine lv_aload_n hC.2.1.1 hC.2.1.2.1 dL_law_650 rfl (lv_at hl 1 rfl) ?_
  refine lv_aload_n hC.2.1.1 hC.2.1.2.1 dL_law_651 rfl (lv_at hl 0 rfl) ?_
  refine lv_iload hC.2.1.1 hC.2.1.2.1 dL_law_652 (lv_at hl 4 rfl) ?_
  refine lv_iconst (v := 1) hC.2.1.1 hC.2.1.2.1 dL_law_654 (by decide) ?_
  refine lv_iadd hC.2.1.1 hC.2.1.2.1 dL_law_655 ?_
  refine va_sld hC.2.1.1 hC.2.1.2.1 hX hbl hbA hw.2.2.2 hin1 dL_law_656 ?_
  refine lv_aload_n hC.2.1.1 hC.2.1.2.1 dL_law_657 rfl (lv_at hl 3 rfl) ?_
  refine lcW (rest := []) (As := [.ref (gAd G 0), .int (xs (nI i + 1).toNatClampNeg), .ref o]) hC.2.1 hC.2.2.2.1 hC.2.2.2.2.1 hC.2.2.2.2.2 hml hl.1 hw (w_count hC.2.2.2.2.2.1.1 l hC.1.2 hC.2.2.2.2.2.oOk (xs (nI i + 1).toNatClampNeg) σ f (fun k1 σ1 f1 => k1 = k ∧ σ1 = σ' ∧ f1 = f') (x_of_count (hw1 (fun k1 σ1 f1 => k1 = k ∧ σ1 = σ' ∧ f1 = f') ⟨rfl, rfl, rfl⟩))) lu86 lu87 lu88 lu3 (k := 3) (by decide +kernel) (by decide) rfl rfl (Nat.le_of_ble_eq_true rfl) dL_law_658 hcs (fun r σ1 f1 H locs hq hw => ?_)
  obtain ⟨e1, e2, e3⟩ := hq
  rw [e2, e3] at hw
  rw [e1]
  refine lv_istore (lv' := [(5, .int k), (0, .ref b), (1, .ref (gAd G 0)), (2, .ref (gAd Gm 0)), (3, .ref o), (4, .int (nI i))]) hC.2.1.1 hC.2.1.2.1 dL_law_661 hl (by decide) rfl (fun ls hl => ?_)
  refine lv_aload_n hC.2.1.1 hC.2.1.2.1 dL_law_663 rfl (lv_at hl 3 rfl) ?_
  refine lv_aload_n hC.2.1.1 hC.2.1.2.1 dL_law_664 rfl (lv_at hl 1 rfl) ?_
  refine lv_iload hC.2.1.1 hC.2.1.2.1 dL_law_665 (lv_at hl 5 rfl) ?_
  refine lv_iconst (v := 1) hC.2.1.1 hC.2.1.2.1 dL_law_667 (by decide) ?_
  refine lv_iadd hC.2.1.1 hC.2.1.2.1 dL_law_668 ?_
  refine va_sld hC.2.1.1 hC.2.1.2.1 hX hbl hbA hw.2.2.2 hin1 dL_law_669 ?_
  refine lcM (rest := []) (As := [.int (xs (nI i + 1).toNatClampNeg)]) hC.2.2.1 hC.2.2.2.2.2 hml hl.1 hw (c_X11_count hC.2.2.2.2.2.1.2 l (xs (nI i + 1).toNatClampNeg) τ (fun r1 τ1 => r1 = bb ∧ τ1 = τ') (hm1 _ ⟨rfl, rfl⟩)) lu89 lu92 lu90 lu91 lu7 rfl (k := 1) (by decide +kernel) (by decide) rfl rfl (Nat.le_of_ble_eq_true rfl) dL_law_670 hcs (fun r τ1 H locs hq hw => ?_)
  obtain ⟨e1, e2⟩ := hq
  rw [e2] at hw
  rw [e1]
  refine lv_istore (lv' := [(6, .int bb), (5, .int k), (0, .ref b), (1, .ref (gAd G 0)), (2, .ref (gAd Gm 0)), (3, .ref o), (4, .int (nI i))]) hC.2.1.1 hC.2.1.2.1 dL_law_673 hl (by decide) rfl (fun ls hl => ?_)
  refine lv_aload_n hC.2.1.1 hC.2.1.2.1 dL_law_675 rfl (lv_at hl 4 rfl) ?_
  refine lcM (rest := []) (As := []) hC.2.2.1 hC.2.2.2.2.2 hml hl.1 hw (c_X11_thrown hC.2.2.2.2.2.1.2 l τ' (fun r1 τ1 => r1 = k ∧ τ1 = τ') ⟨hk0, rfl⟩) lu9 lu12 lu10 lu11 lu7 rfl (k := 0) (by decide +kernel) (by decide) rfl rfl (Nat.le_of_ble_eq_true rfl) dL_law_676 hcs (fun r τ1 H locs hq hw => ?_)
  obtain ⟨e1, e2⟩ := hq
  rw [e2] at hw
  rw [e1]
  refine lv_iload hC.2.1.1 hC.2.1.2.1 dL_law_679 (lv_at hl 1 rfl) ?_
  refine lv_icmp_eq (tgt := 686) hC.2.1.1 hC.2.1.2.1 dL_law_681 (by decide) (fun _ => ?_) (fun z => absurd rfl z)
  refine lv_iload hC.2.1.1 hC.2.1.2.1 dL_law_686 (lv_at hl 1 rfl) ?_
  have fin : W p l e room_1 s m #[Value.ref b] below meth c H locs (cells + 1) (slots + 6) (lw_Z below #[Value.ref b] s) (F0 m 703 ls []) := by
    refine lv_goto (tgt := 706) hC.2.1.1 hC.2.1.2.1 dL_law_703 (by decide) ?_
    exact hK σ' τ' f' _ _ _ hRR hw (lv_sub hl [2, 3, 4, 5, 6] rfl)
  refine lv_if_ne (tgt := 703) hC.2.1.1 hC.2.1.2.1 dL_law_688 (by decide) (fun _ => fin) (fun z0 => ?_)
  refine lv_aload_n hC.2.1.1 hC.2.1.2.1 dL_law_691 rfl (lv_at hl 5 rfl) ?_
  refine lv_iconst (v := 0) hC.2.1.1 hC.2.1.2.1 dL_law_692 (by decide) ?_
  refine lcLd hC.2.1 hC.2.2.2.2.1 hw dL_law_693 ?_
  refine lv_iload hC.2.1.1 hC.2.1.2.1 dL_law_694 (lv_at hl 0 rfl) ?_
  refine lv_i2l (v := bb.toInt64) hC.2.1.1 hC.2.1.2.1 dL_law_696 rfl ?_
  refine W.lcmp hC.2.1.1 hC.2.1.2.1 dL_law_697 ?_
  exact lv_if_eq (tgt := 703) hC.2.1.1 hC.2.1.2.1 dL_law_698 (by decide) (fun _ => fin) (fun z => absurd (by rw [hkb z0]; exact lgc_self _) z)
