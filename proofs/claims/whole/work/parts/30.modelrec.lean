theorem hcX12_isSo : yX12_isSo.cls ≠ "java/lang/invoke/MethodHandle" ∧ yX12_isSo.cls ≠ "java/lang/invoke/VarHandle" ∧ (parseMethodDescriptor yX12_isSo.desc).map (fun d => d.parameters.length) = some 2 := ⟨by decide +kernel, by decide +kernel, by decide +kernel⟩
theorem dX12_isSo_0 : decode cX12_isSo 0 = .ok (.sipush 1800, 3) := by decide +kernel
theorem dX12_isSo_3 : decode cX12_isSo 3 = .ok (.iconst 4, 1) := by decide +kernel
theorem dX12_isSo_4 : decode cX12_isSo 4 = .ok (.iload_n 1, 1) := by decide +kernel
theorem dX12_isSo_5 : decode cX12_isSo 5 = .ok (.imul, 1) := by decide +kernel
theorem dX12_isSo_6 : decode cX12_isSo 6 = .ok (.iadd, 1) := by decide +kernel
theorem dX12_isSo_7 : decode cX12_isSo 7 = .ok (.istore_n 3, 1) := by decide +kernel
theorem dX12_isSo_8 : decode cX12_isSo 8 = .ok (.aload_n 0, 1) := by decide +kernel
theorem dX12_isSo_9 : decode cX12_isSo 9 = .ok (.getfield 13, 3) := by decide +kernel
theorem dX12_isSo_12 : decode cX12_isSo 12 = .ok (.iload_n 3, 1) := by decide +kernel
theorem dX12_isSo_13 : decode cX12_isSo 13 = .ok (.iaload, 1) := by decide +kernel
theorem dX12_isSo_14 : decode cX12_isSo 14 = .ok (.tableswitch 168 1 6 #[38, 60, 98, 136, 149, 163], 38) := by decide +kernel
theorem dX12_isSo_52 : decode cX12_isSo 52 = .ok (.aload_n 0, 1) := by decide +kernel
theorem dX12_isSo_53 : decode cX12_isSo 53 = .ok (.aload_n 0, 1) := by decide +kernel
theorem dX12_isSo_54 : decode cX12_isSo 54 = .ok (.getfield 13, 3) := by decide +kernel
theorem dX12_isSo_57 : decode cX12_isSo 57 = .ok (.iload_n 3, 1) := by decide +kernel
theorem dX12_isSo_58 : decode cX12_isSo 58 = .ok (.iconst 1, 1) := by decide +kernel
theorem dX12_isSo_59 : decode cX12_isSo 59 = .ok (.iadd, 1) := by decide +kernel
theorem dX12_isSo_60 : decode cX12_isSo 60 = .ok (.iaload, 1) := by decide +kernel
theorem dX12_isSo_61 : decode cX12_isSo 61 = .ok (.iload_n 2, 1) := by decide +kernel
theorem dX12_isSo_62 : decode cX12_isSo 62 = .ok (.invokevirtual 396, 3) := by decide +kernel
theorem dX12_isSo_65 : decode cX12_isSo 65 = .ok (.ifCond .ne 7, 3) := by decide +kernel
theorem dX12_isSo_68 : decode cX12_isSo 68 = .ok (.iconst 1, 1) := by decide +kernel
theorem dX12_isSo_69 : decode cX12_isSo 69 = .ok (.goto 4, 3) := by decide +kernel
theorem dX12_isSo_72 : decode cX12_isSo 72 = .ok (.iconst 0, 1) := by decide +kernel
theorem dX12_isSo_73 : decode cX12_isSo 73 = .ok (.ireturn, 1) := by decide +kernel
theorem dX12_isSo_74 : decode cX12_isSo 74 = .ok (.aload_n 0, 1) := by decide +kernel
theorem dX12_isSo_75 : decode cX12_isSo 75 = .ok (.aload_n 0, 1) := by decide +kernel
theorem dX12_isSo_76 : decode cX12_isSo 76 = .ok (.getfield 13, 3) := by decide +kernel
theorem dX12_isSo_79 : decode cX12_isSo 79 = .ok (.iload_n 3, 1) := by decide +kernel
theorem dX12_isSo_80 : decode cX12_isSo 80 = .ok (.iconst 1, 1) := by decide +kernel
theorem dX12_isSo_81 : decode cX12_isSo 81 = .ok (.iadd, 1) := by decide +kernel
theorem dX12_isSo_82 : decode cX12_isSo 82 = .ok (.iaload, 1) := by decide +kernel
theorem dX12_isSo_83 : decode cX12_isSo 83 = .ok (.iload_n 2, 1) := by decide +kernel
theorem dX12_isSo_84 : decode cX12_isSo 84 = .ok (.invokevirtual 396, 3) := by decide +kernel
theorem dX12_isSo_87 : decode cX12_isSo 87 = .ok (.ifCond .eq 23, 3) := by decide +kernel
theorem dX12_isSo_90 : decode cX12_isSo 90 = .ok (.aload_n 0, 1) := by decide +kernel
theorem dX12_isSo_91 : decode cX12_isSo 91 = .ok (.aload_n 0, 1) := by decide +kernel
theorem dX12_isSo_92 : decode cX12_isSo 92 = .ok (.getfield 13, 3) := by decide +kernel
theorem dX12_isSo_95 : decode cX12_isSo 95 = .ok (.iload_n 3, 1) := by decide +kernel
theorem dX12_isSo_96 : decode cX12_isSo 96 = .ok (.iconst 2, 1) := by decide +kernel
theorem dX12_isSo_97 : decode cX12_isSo 97 = .ok (.iadd, 1) := by decide +kernel
theorem dX12_isSo_98 : decode cX12_isSo 98 = .ok (.iaload, 1) := by decide +kernel
theorem dX12_isSo_99 : decode cX12_isSo 99 = .ok (.iload_n 2, 1) := by decide +kernel
theorem dX12_isSo_100 : decode cX12_isSo 100 = .ok (.invokevirtual 396, 3) := by decide +kernel
theorem dX12_isSo_103 : decode cX12_isSo 103 = .ok (.ifCond .eq 7, 3) := by decide +kernel
theorem dX12_isSo_106 : decode cX12_isSo 106 = .ok (.iconst 1, 1) := by decide +kernel
theorem dX12_isSo_107 : decode cX12_isSo 107 = .ok (.goto 4, 3) := by decide +kernel
theorem dX12_isSo_110 : decode cX12_isSo 110 = .ok (.iconst 0, 1) := by decide +kernel
theorem dX12_isSo_111 : decode cX12_isSo 111 = .ok (.ireturn, 1) := by decide +kernel
theorem dX12_isSo_112 : decode cX12_isSo 112 = .ok (.aload_n 0, 1) := by decide +kernel
theorem dX12_isSo_113 : decode cX12_isSo 113 = .ok (.aload_n 0, 1) := by decide +kernel
theorem dX12_isSo_114 : decode cX12_isSo 114 = .ok (.getfield 13, 3) := by decide +kernel
theorem dX12_isSo_117 : decode cX12_isSo 117 = .ok (.iload_n 3, 1) := by decide +kernel
theorem dX12_isSo_118 : decode cX12_isSo 118 = .ok (.iconst 1, 1) := by decide +kernel
theorem dX12_isSo_119 : decode cX12_isSo 119 = .ok (.iadd, 1) := by decide +kernel
theorem dX12_isSo_120 : decode cX12_isSo 120 = .ok (.iaload, 1) := by decide +kernel
theorem dX12_isSo_121 : decode cX12_isSo 121 = .ok (.iload_n 2, 1) := by decide +kernel
theorem dX12_isSo_122 : decode cX12_isSo 122 = .ok (.invokevirtual 396, 3) := by decide +kernel
theorem dX12_isSo_125 : decode cX12_isSo 125 = .ok (.ifCond .ne 19, 3) := by decide +kernel
theorem dX12_isSo_128 : decode cX12_isSo 128 = .ok (.aload_n 0, 1) := by decide +kernel
theorem dX12_isSo_129 : decode cX12_isSo 129 = .ok (.aload_n 0, 1) := by decide +kernel
theorem dX12_isSo_130 : decode cX12_isSo 130 = .ok (.getfield 13, 3) := by decide +kernel
theorem dX12_isSo_133 : decode cX12_isSo 133 = .ok (.iload_n 3, 1) := by decide +kernel
theorem dX12_isSo_134 : decode cX12_isSo 134 = .ok (.iconst 2, 1) := by decide +kernel
theorem dX12_isSo_135 : decode cX12_isSo 135 = .ok (.iadd, 1) := by decide +kernel
theorem dX12_isSo_136 : decode cX12_isSo 136 = .ok (.iaload, 1) := by decide +kernel
theorem dX12_isSo_137 : decode cX12_isSo 137 = .ok (.iload_n 2, 1) := by decide +kernel
theorem dX12_isSo_138 : decode cX12_isSo 138 = .ok (.invokevirtual 396, 3) := by decide +kernel
theorem dX12_isSo_141 : decode cX12_isSo 141 = .ok (.ifCond .eq 7, 3) := by decide +kernel
theorem dX12_isSo_144 : decode cX12_isSo 144 = .ok (.iconst 1, 1) := by decide +kernel
theorem dX12_isSo_145 : decode cX12_isSo 145 = .ok (.goto 4, 3) := by decide +kernel
theorem dX12_isSo_148 : decode cX12_isSo 148 = .ok (.iconst 0, 1) := by decide +kernel
theorem dX12_isSo_149 : decode cX12_isSo 149 = .ok (.ireturn, 1) := by decide +kernel
theorem dX12_isSo_150 : decode cX12_isSo 150 = .ok (.aload_n 0, 1) := by decide +kernel
theorem dX12_isSo_151 : decode cX12_isSo 151 = .ok (.getfield 273, 3) := by decide +kernel
theorem dX12_isSo_154 : decode cX12_isSo 154 = .ok (.ifCond .le 7, 3) := by decide +kernel
theorem dX12_isSo_157 : decode cX12_isSo 157 = .ok (.iconst 1, 1) := by decide +kernel
theorem dX12_isSo_158 : decode cX12_isSo 158 = .ok (.goto 4, 3) := by decide +kernel
theorem dX12_isSo_161 : decode cX12_isSo 161 = .ok (.iconst 0, 1) := by decide +kernel
theorem dX12_isSo_162 : decode cX12_isSo 162 = .ok (.ireturn, 1) := by decide +kernel
theorem dX12_isSo_163 : decode cX12_isSo 163 = .ok (.aload_n 0, 1) := by decide +kernel
theorem dX12_isSo_164 : decode cX12_isSo 164 = .ok (.getfield 218, 3) := by decide +kernel
theorem dX12_isSo_167 : decode cX12_isSo 167 = .ok (.iconst (-1), 1) := by decide +kernel
theorem dX12_isSo_168 : decode cX12_isSo 168 = .ok (.if_icmp .eq 7, 3) := by decide +kernel
theorem dX12_isSo_171 : decode cX12_isSo 171 = .ok (.iconst 1, 1) := by decide +kernel
theorem dX12_isSo_172 : decode cX12_isSo 172 = .ok (.goto 4, 3) := by decide +kernel
theorem dX12_isSo_175 : decode cX12_isSo 175 = .ok (.iconst 0, 1) := by decide +kernel
theorem dX12_isSo_176 : decode cX12_isSo 176 = .ok (.ireturn, 1) := by decide +kernel
theorem dX12_isSo_177 : decode cX12_isSo 177 = .ok (.aload_n 0, 1) := by decide +kernel
theorem dX12_isSo_178 : decode cX12_isSo 178 = .ok (.getfield 282, 3) := by decide +kernel
theorem dX12_isSo_181 : decode cX12_isSo 181 = .ok (.ireturn, 1) := by decide +kernel
theorem dX12_isSo_182 : decode cX12_isSo 182 = .ok (.aload_n 0, 1) := by decide +kernel
theorem dX12_isSo_183 : decode cX12_isSo 183 = .ok (.aload_n 0, 1) := by decide +kernel
theorem dX12_isSo_184 : decode cX12_isSo 184 = .ok (.getfield 13, 3) := by decide +kernel
theorem dX12_isSo_187 : decode cX12_isSo 187 = .ok (.iload_n 3, 1) := by decide +kernel
theorem dX12_isSo_188 : decode cX12_isSo 188 = .ok (.iconst 1, 1) := by decide +kernel
theorem dX12_isSo_189 : decode cX12_isSo 189 = .ok (.iadd, 1) := by decide +kernel
theorem dX12_isSo_190 : decode cX12_isSo 190 = .ok (.iaload, 1) := by decide +kernel
theorem dX12_isSo_191 : decode cX12_isSo 191 = .ok (.iload_n 2, 1) := by decide +kernel
theorem dX12_isSo_192 : decode cX12_isSo 192 = .ok (.invokevirtual 399, 3) := by decide +kernel
theorem dX12_isSo_195 : decode cX12_isSo 195 = .ok (.istore 4, 2) := by decide +kernel
theorem dX12_isSo_197 : decode cX12_isSo 197 = .ok (.aload_n 0, 1) := by decide +kernel
theorem dX12_isSo_198 : decode cX12_isSo 198 = .ok (.getfield 13, 3) := by decide +kernel
theorem dX12_isSo_201 : decode cX12_isSo 201 = .ok (.iload_n 3, 1) := by decide +kernel
theorem dX12_isSo_202 : decode cX12_isSo 202 = .ok (.iconst 3, 1) := by decide +kernel
theorem dX12_isSo_203 : decode cX12_isSo 203 = .ok (.iadd, 1) := by decide +kernel
theorem dX12_isSo_204 : decode cX12_isSo 204 = .ok (.iaload, 1) := by decide +kernel
theorem dX12_isSo_205 : decode cX12_isSo 205 = .ok (.bipush 60, 2) := by decide +kernel
theorem dX12_isSo_207 : decode cX12_isSo 207 = .ok (.if_icmp .ne 24, 3) := by decide +kernel
theorem dX12_isSo_210 : decode cX12_isSo 210 = .ok (.iload 4, 2) := by decide +kernel
theorem dX12_isSo_212 : decode cX12_isSo 212 = .ok (.aload_n 0, 1) := by decide +kernel
theorem dX12_isSo_213 : decode cX12_isSo 213 = .ok (.getfield 13, 3) := by decide +kernel
theorem dX12_isSo_216 : decode cX12_isSo 216 = .ok (.iload_n 3, 1) := by decide +kernel
theorem dX12_isSo_217 : decode cX12_isSo 217 = .ok (.iconst 2, 1) := by decide +kernel
theorem dX12_isSo_218 : decode cX12_isSo 218 = .ok (.iadd, 1) := by decide +kernel
theorem dX12_isSo_219 : decode cX12_isSo 219 = .ok (.iaload, 1) := by decide +kernel
theorem dX12_isSo_220 : decode cX12_isSo 220 = .ok (.if_icmp .ge 7, 3) := by decide +kernel
theorem dX12_isSo_223 : decode cX12_isSo 223 = .ok (.iconst 1, 1) := by decide +kernel
theorem dX12_isSo_224 : decode cX12_isSo 224 = .ok (.goto 59, 3) := by decide +kernel
theorem dX12_isSo_227 : decode cX12_isSo 227 = .ok (.iconst 0, 1) := by decide +kernel
theorem dX12_isSo_228 : decode cX12_isSo 228 = .ok (.goto 55, 3) := by decide +kernel
theorem dX12_isSo_231 : decode cX12_isSo 231 = .ok (.aload_n 0, 1) := by decide +kernel
theorem dX12_isSo_232 : decode cX12_isSo 232 = .ok (.getfield 13, 3) := by decide +kernel
theorem dX12_isSo_235 : decode cX12_isSo 235 = .ok (.iload_n 3, 1) := by decide +kernel
theorem dX12_isSo_236 : decode cX12_isSo 236 = .ok (.iconst 3, 1) := by decide +kernel
theorem dX12_isSo_237 : decode cX12_isSo 237 = .ok (.iadd, 1) := by decide +kernel
theorem dX12_isSo_238 : decode cX12_isSo 238 = .ok (.iaload, 1) := by decide +kernel
theorem dX12_isSo_239 : decode cX12_isSo 239 = .ok (.bipush 61, 2) := by decide +kernel
theorem dX12_isSo_241 : decode cX12_isSo 241 = .ok (.if_icmp .ne 24, 3) := by decide +kernel
theorem dX12_isSo_244 : decode cX12_isSo 244 = .ok (.iload 4, 2) := by decide +kernel
theorem dX12_isSo_246 : decode cX12_isSo 246 = .ok (.aload_n 0, 1) := by decide +kernel
theorem dX12_isSo_247 : decode cX12_isSo 247 = .ok (.getfield 13, 3) := by decide +kernel
theorem dX12_isSo_250 : decode cX12_isSo 250 = .ok (.iload_n 3, 1) := by decide +kernel
theorem dX12_isSo_251 : decode cX12_isSo 251 = .ok (.iconst 2, 1) := by decide +kernel
theorem dX12_isSo_252 : decode cX12_isSo 252 = .ok (.iadd, 1) := by decide +kernel
theorem dX12_isSo_253 : decode cX12_isSo 253 = .ok (.iaload, 1) := by decide +kernel
theorem dX12_isSo_254 : decode cX12_isSo 254 = .ok (.if_icmp .ne 7, 3) := by decide +kernel
theorem dX12_isSo_257 : decode cX12_isSo 257 = .ok (.iconst 1, 1) := by decide +kernel
theorem dX12_isSo_258 : decode cX12_isSo 258 = .ok (.goto 25, 3) := by decide +kernel
theorem dX12_isSo_261 : decode cX12_isSo 261 = .ok (.iconst 0, 1) := by decide +kernel
theorem dX12_isSo_262 : decode cX12_isSo 262 = .ok (.goto 21, 3) := by decide +kernel
theorem dX12_isSo_265 : decode cX12_isSo 265 = .ok (.iload 4, 2) := by decide +kernel
theorem dX12_isSo_267 : decode cX12_isSo 267 = .ok (.aload_n 0, 1) := by decide +kernel
theorem dX12_isSo_268 : decode cX12_isSo 268 = .ok (.getfield 13, 3) := by decide +kernel
theorem dX12_isSo_271 : decode cX12_isSo 271 = .ok (.iload_n 3, 1) := by decide +kernel
theorem dX12_isSo_272 : decode cX12_isSo 272 = .ok (.iconst 2, 1) := by decide +kernel
theorem dX12_isSo_273 : decode cX12_isSo 273 = .ok (.iadd, 1) := by decide +kernel
theorem dX12_isSo_274 : decode cX12_isSo 274 = .ok (.iaload, 1) := by decide +kernel
theorem dX12_isSo_275 : decode cX12_isSo 275 = .ok (.if_icmp .le 7, 3) := by decide +kernel
theorem dX12_isSo_278 : decode cX12_isSo 278 = .ok (.iconst 1, 1) := by decide +kernel
theorem dX12_isSo_279 : decode cX12_isSo 279 = .ok (.goto 4, 3) := by decide +kernel
theorem dX12_isSo_282 : decode cX12_isSo 282 = .ok (.iconst 0, 1) := by decide +kernel
theorem dX12_isSo_283 : decode cX12_isSo 283 = .ok (.ireturn, 1) := by decide +kernel
def fX12_isSo_b (rc : Nat → sg_M → Int → Int → (Int → Prop) → Prop) (s0 : sg_M) (x1 : Int) (x2 : Int) (Q : Int → Prop) : Prop := (0 ≤ (1800 + (4 * x1)) ∧ (1800 + (4 * x1)) < 2040) ∧ (((s0 66 (1800 + (4 * x1))) < 1 ∨ 6 < (s0 66 (1800 + (4 * x1))) → (0 ≤ ((1800 + (4 * x1)) + 1) ∧ ((1800 + (4 * x1)) + 1) < 2040) ∧ fX12_valueOf s0 (s0 66 ((1800 + (4 * x1)) + 1)) x2 (fun u8 => (0 ≤ ((1800 + (4 * x1)) + 3) ∧ ((1800 + (4 * x1)) + 3) < 2040) ∧ (((s0 66 ((1800 + (4 * x1)) + 3)) ≠ 60 → (0 ≤ ((1800 + (4 * x1)) + 3) ∧ ((1800 + (4 * x1)) + 3) < 2040) ∧ (((s0 66 ((1800 + (4 * x1)) + 3)) ≠ 61 → (0 ≤ ((1800 + (4 * x1)) + 2) ∧ ((1800 + (4 * x1)) + 2) < 2040) ∧ ((u8 ≤ (s0 66 ((1800 + (4 * x1)) + 2)) → Q 0) ∧ (¬ (u8 ≤ (s0 66 ((1800 + (4 * x1)) + 2))) → Q 1))) ∧ ((s0 66 ((1800 + (4 * x1)) + 3)) = 61 → (0 ≤ ((1800 + (4 * x1)) + 2) ∧ ((1800 + (4 * x1)) + 2) < 2040) ∧ ((u8 ≠ (s0 66 ((1800 + (4 * x1)) + 2)) → Q 0) ∧ (u8 = (s0 66 ((1800 + (4 * x1)) + 2)) → Q 1))))) ∧ ((s0 66 ((1800 + (4 * x1)) + 3)) = 60 → (0 ≤ ((1800 + (4 * x1)) + 2) ∧ ((1800 + (4 * x1)) + 2) < 2040) ∧ (((s0 66 ((1800 + (4 * x1)) + 2)) ≤ u8 → Q 0) ∧ (¬ ((s0 66 ((1800 + (4 * x1)) + 2)) ≤ u8) → Q 1)))))) ∧ ((s0 66 (1800 + (4 * x1))) = 1 → (0 ≤ ((1800 + (4 * x1)) + 1) ∧ ((1800 + (4 * x1)) + 1) < 2040) ∧ rc 0 s0 (s0 66 ((1800 + (4 * x1)) + 1)) x2 (fun u33 => ((u33 ≠ 0 → Q 0) ∧ (u33 = 0 → Q 1)))) ∧ ((s0 66 (1800 + (4 * x1))) = 2 → (0 ≤ ((1800 + (4 * x1)) + 1) ∧ ((1800 + (4 * x1)) + 1) < 2040) ∧ rc 0 s0 (s0 66 ((1800 + (4 * x1)) + 1)) x2 (fun u39 => ((u39 = 0 → Q 0) ∧ (¬ (u39 = 0) → (0 ≤ ((1800 + (4 * x1)) + 2) ∧ ((1800 + (4 * x1)) + 2) < 2040) ∧ rc 0 s0 (s0 66 ((1800 + (4 * x1)) + 2)) x2 (fun u45 => ((u45 = 0 → Q 0) ∧ (¬ (u45 = 0) → Q 1))))))) ∧ ((s0 66 (1800 + (4 * x1))) = 3 → (0 ≤ ((1800 + (4 * x1)) + 1) ∧ ((1800 + (4 * x1)) + 1) < 2040) ∧ rc 0 s0 (s0 66 ((1800 + (4 * x1)) + 1)) x2 (fun u51 => ((u51 ≠ 0 → Q 1) ∧ (u51 = 0 → (0 ≤ ((1800 + (4 * x1)) + 2) ∧ ((1800 + (4 * x1)) + 2) < 2040) ∧ rc 0 s0 (s0 66 ((1800 + (4 * x1)) + 2)) x2 (fun u57 => ((u57 = 0 → Q 0) ∧ (¬ (u57 = 0) → Q 1))))))) ∧ ((s0 66 (1800 + (4 * x1))) = 4 → (((s0 64 39) ≤ 0 → Q 0) ∧ (¬ ((s0 64 39) ≤ 0) → Q 1))) ∧ ((s0 66 (1800 + (4 * x1))) = 5 → (((s0 64 30) = (-1) → Q 0) ∧ (¬ ((s0 64 30) = (-1)) → Q 1))) ∧ ((s0 66 (1800 + (4 * x1))) = 6 → Q (s0 64 42)))
set_option maxHeartbeats 4000000 in
set_option maxRecDepth 100000 in
theorem CX12_isSo_b {l : Launch} {G : sg_G} {La : sg_L} {s0 : sg_M} (hst : sg_St La) {x1 : Int} (r1 : sg_R x1) {x2 : Int} (r2 : sg_R x2) {Q : Int → Prop} {d : Nat} (hd : 1 ≤ d) {rc : Nat → sg_M → Int → Int → (Int → Prop) → Prop} (ih0 : ∀ {s0 : sg_M} {x1 : Int} (r1 : sg_R x1) {x2 : Int} (r2 : sg_R x2) {Q : Int → Prop}, rc 0 s0 x1 x2 Q → sg_C l G yX12_isSo cX12_isSo 5 (some .boolean) d 0 0 La s0 [sg_r 64, sg_i x1, sg_i x2] (sg_PZ La s0 Q)) (hf : fX12_isSo_b rc s0 x1 x2 Q) : sg_C l G yX12_isSo cX12_isSo 5 (some .boolean) (d + 1) 0 0 La s0 [sg_r 64, sg_i x1, sg_i x2] (sg_PZ La s0 Q) := by
  refine sg_body (by decide +kernel) (Nat.le_of_ble_eq_true rfl) ?_
  intro p e s m args below meth c F hnm
  unfold fX12_isSo_b at hf
  show sg_W p l e (sg_rm (d + 1) 0 0) s m args below meth c (MQ below (sg_Q (some .boolean) G La s.heap.size (sg_PZ La s0 Q)) args s 0 0 (sg_A La s.heap.size)) 5 G (sg_A La s.heap.size) La s0 0 0 0 [(0, sg_r 64), (1, sg_i x1), (2, sg_i x2)] []
  refine gw_sipush F rfl dX12_isSo_0 ?_
  refine gw_iconst F dX12_isSo_3 ?_
  refine gw_iload_n F 1 rfl rfl dX12_isSo_4 ?_
  refine gw_imul F rfl dX12_isSo_5 ?_
  refine gw_iadd F rfl dX12_isSo_6 ?_
  refine gw_istore_n F rfl (by decide) rfl dX12_isSo_7 ?_
  refine gw_aload_n F 1 rfl rfl (by decide) dX12_isSo_8 ?_
  refine gw_get7 F (so_64 hst) (by decide) rfl sg_lay_RX12 (j := 14) (by decide) (o1 := 66) (by first | rfl | omega) rfl (host := "") (.inl kw_970) dX12_isSo_9 (fun h1 => ?_)
  refine gw_iload_n F 0 rfl rfl dX12_isSo_12 ?_
  obtain ⟨⟨b20, b21⟩, hf⟩ := hf
  refine gw_iald F (sa_66 hst) b20 b21 dX12_isSo_13 (fun h3 => ?_)
  refine gw_switch F dX12_isSo_14 h3 (td := 182) (by decide) (fun c4 => ?_) (fun i hi1 hi2 => ?_)
  · have hf := hf.1 c4
    refine gw_aload_n F 1 rfl rfl (by decide) dX12_isSo_182 ?_
    refine gw_aload_n F 1 rfl rfl (by decide) dX12_isSo_183 ?_
    refine gw_get7 F (so_64 hst) (by decide) rfl sg_lay_RX12 (j := 14) (by decide) (o1 := 66) (by first | rfl | omega) rfl (host := "") (.inl kw_970) dX12_isSo_184 (fun h5 => ?_)
    refine gw_iload_n F 0 rfl rfl dX12_isSo_187 ?_
    refine gw_iconst F dX12_isSo_188 ?_
    refine gw_iadd F rfl dX12_isSo_189 ?_
    obtain ⟨⟨b60, b61⟩, hf⟩ := hf
    refine gw_iald F (sa_66 hst) b60 b61 dX12_isSo_190 (fun h7 => ?_)
    refine gw_iload_n F 3 rfl rfl dX12_isSo_191 ?_
    refine gk_PI F (gc_V F (S := []) (As := [sg_i (s0 66 ((1800 + (4 * x1)) + 1)), sg_i x2]) (T := TX12) (N := 62) (CX12_valueOf hst h7 r2 hf) (so_64 hst) (by decide) rfl kw_1338 kw_103 kw_1336 kw_1337 kw_88 hcX12_valueOf ⟨by simp only [sg_rm]; omega, by simp only [sg_rm]; omega⟩ rfl rfl (Nat.le_of_ble_eq_true rfl) ⟨by simp only [sg_rm]; omega, by simp only [sg_rm]; omega⟩ dX12_isSo_192) (fun u8 h9 hf => ?_)
    refine gw_istore F (by decide) rfl dX12_isSo_195 ?_
    refine gw_aload_n F 2 rfl rfl (by decide) dX12_isSo_197 ?_
    refine gw_get7 F (so_64 hst) (by decide) rfl sg_lay_RX12 (j := 14) (by decide) (o1 := 66) (by first | rfl | omega) rfl (host := "") (.inl kw_970) dX12_isSo_198 (fun h10 => ?_)
    refine gw_iload_n F 1 rfl rfl dX12_isSo_201 ?_
    refine gw_iconst F dX12_isSo_202 ?_
    refine gw_iadd F rfl dX12_isSo_203 ?_
    obtain ⟨⟨b110, b111⟩, hf⟩ := hf
    refine gw_iald F (sa_66 hst) b110 b111 dX12_isSo_204 (fun h12 => ?_)
    refine gw_bipush F rfl dX12_isSo_205 ?_
    refine gw_icmp_ne F (tgt := 231) dX12_isSo_207 (by decide) h12 (by decide) (fun c13 => ?_) (fun c13 => ?_)
    · have hf := hf.1 c13
      refine gw_aload_n F 2 rfl rfl (by decide) dX12_isSo_231 ?_
      refine gw_get7 F (so_64 hst) (by decide) rfl sg_lay_RX12 (j := 14) (by decide) (o1 := 66) (by first | rfl | omega) rfl (host := "") (.inl kw_970) dX12_isSo_232 (fun h14 => ?_)
      refine gw_iload_n F 1 rfl rfl dX12_isSo_235 ?_
      refine gw_iconst F dX12_isSo_236 ?_
      refine gw_iadd F rfl dX12_isSo_237 ?_
      obtain ⟨⟨b150, b151⟩, hf⟩ := hf
      refine gw_iald F (sa_66 hst) b150 b151 dX12_isSo_238 (fun h16 => ?_)
      refine gw_bipush F rfl dX12_isSo_239 ?_
      refine gw_icmp_ne F (tgt := 265) dX12_isSo_241 (by decide) h16 (by decide) (fun c17 => ?_) (fun c17 => ?_)
      · have hf := hf.1 c17
        refine gw_iload F 0 rfl dX12_isSo_265 ?_
        refine gw_aload_n F 2 rfl rfl (by decide) dX12_isSo_267 ?_
        refine gw_get7 F (so_64 hst) (by decide) rfl sg_lay_RX12 (j := 14) (by decide) (o1 := 66) (by first | rfl | omega) rfl (host := "") (.inl kw_970) dX12_isSo_268 (fun h18 => ?_)
        refine gw_iload_n F 1 rfl rfl dX12_isSo_271 ?_
        refine gw_iconst F dX12_isSo_272 ?_
        refine gw_iadd F rfl dX12_isSo_273 ?_
        obtain ⟨⟨b190, b191⟩, hf⟩ := hf
        refine gw_iald F (sa_66 hst) b190 b191 dX12_isSo_274 (fun h20 => ?_)
        refine gw_icmp_le F (tgt := 282) dX12_isSo_275 (by decide) h9 h20 (fun c21 => ?_) (fun c21 => ?_)
        · have hf := hf.1 c21
          refine gw_iconst F dX12_isSo_282 ?_
          exact gr_PZ F (by decide) hf (by decide) (by decide) dX12_isSo_283
        · have hf := hf.2 c21
          refine gw_iconst F dX12_isSo_278 ?_
          refine gw_goto F (tgt := 283) dX12_isSo_279 (by decide) ?_
          exact gr_PZ F (by decide) hf (by decide) (by decide) dX12_isSo_283
      · have hf := hf.2 c17
        refine gw_iload F 0 rfl dX12_isSo_244 ?_
        refine gw_aload_n F 2 rfl rfl (by decide) dX12_isSo_246 ?_
        refine gw_get7 F (so_64 hst) (by decide) rfl sg_lay_RX12 (j := 14) (by decide) (o1 := 66) (by first | rfl | omega) rfl (host := "") (.inl kw_970) dX12_isSo_247 (fun h22 => ?_)
        refine gw_iload_n F 1 rfl rfl dX12_isSo_250 ?_
        refine gw_iconst F dX12_isSo_251 ?_
        refine gw_iadd F rfl dX12_isSo_252 ?_
        obtain ⟨⟨b230, b231⟩, hf⟩ := hf
        refine gw_iald F (sa_66 hst) b230 b231 dX12_isSo_253 (fun h24 => ?_)
        refine gw_icmp_ne F (tgt := 261) dX12_isSo_254 (by decide) h9 h24 (fun c25 => ?_) (fun c25 => ?_)
        · have hf := hf.1 c25
          refine gw_iconst F dX12_isSo_261 ?_
          refine gw_goto F (tgt := 283) dX12_isSo_262 (by decide) ?_
          exact gr_PZ F (by decide) hf (by decide) (by decide) dX12_isSo_283
        · have hf := hf.2 c25
          refine gw_iconst F dX12_isSo_257 ?_
          refine gw_goto F (tgt := 283) dX12_isSo_258 (by decide) ?_
          exact gr_PZ F (by decide) hf (by decide) (by decide) dX12_isSo_283
    · have hf := hf.2 c13
      refine gw_iload F 0 rfl dX12_isSo_210 ?_
      refine gw_aload_n F 2 rfl rfl (by decide) dX12_isSo_212 ?_
      refine gw_get7 F (so_64 hst) (by decide) rfl sg_lay_RX12 (j := 14) (by decide) (o1 := 66) (by first | rfl | omega) rfl (host := "") (.inl kw_970) dX12_isSo_213 (fun h26 => ?_)
      refine gw_iload_n F 1 rfl rfl dX12_isSo_216 ?_
      refine gw_iconst F dX12_isSo_217 ?_
      refine gw_iadd F rfl dX12_isSo_218 ?_
      obtain ⟨⟨b270, b271⟩, hf⟩ := hf
      refine gw_iald F (sa_66 hst) b270 b271 dX12_isSo_219 (fun h28 => ?_)
      refine gw_icmp_ge F (tgt := 227) dX12_isSo_220 (by decide) h9 h28 (fun c29 => ?_) (fun c29 => ?_)
      · have hf := hf.1 c29
        refine gw_iconst F dX12_isSo_227 ?_
        refine gw_goto F (tgt := 283) dX12_isSo_228 (by decide) ?_
        exact gr_PZ F (by decide) hf (by decide) (by decide) dX12_isSo_283
      · have hf := hf.2 c29
        refine gw_iconst F dX12_isSo_223 ?_
        refine gw_goto F (tgt := 283) dX12_isSo_224 (by decide) ?_
        exact gr_PZ F (by decide) hf (by decide) (by decide) dX12_isSo_283
  · rcases (show i = 0 ∨ i = 1 ∨ i = 2 ∨ i = 3 ∨ i = 4 ∨ i = 5 by omega) with rfl | rfl | rfl | rfl | rfl | rfl
    · have hf := hf.2.1 (by omega)
      refine ⟨38, 52, rfl, by decide, ?_⟩
      refine gw_aload_n F 1 rfl rfl (by decide) dX12_isSo_52 ?_
      refine gw_aload_n F 1 rfl rfl (by decide) dX12_isSo_53 ?_
      refine gw_get7 F (so_64 hst) (by decide) rfl sg_lay_RX12 (j := 14) (by decide) (o1 := 66) (by first | rfl | omega) rfl (host := "") (.inl kw_970) dX12_isSo_54 (fun h30 => ?_)
      refine gw_iload_n F 0 rfl rfl dX12_isSo_57 ?_
      refine gw_iconst F dX12_isSo_58 ?_
      refine gw_iadd F rfl dX12_isSo_59 ?_
      obtain ⟨⟨b310, b311⟩, hf⟩ := hf
      refine gw_iald F (sa_66 hst) b310 b311 dX12_isSo_60 (fun h32 => ?_)
      refine gw_iload_n F 3 rfl rfl dX12_isSo_61 ?_
      refine gk_PZ F (gc_V F (S := []) (As := [sg_i (s0 66 ((1800 + (4 * x1)) + 1)), sg_i x2]) (T := TX12) (N := 62) (ih0 h32 r2 hf) (so_64 hst) (by decide) rfl kw_1335 kw_103 kw_1333 kw_1334 kw_87 hcX12_isSo ⟨by simp only [sg_rm]; omega, by simp only [sg_rm]; omega⟩ rfl rfl (Nat.le_of_ble_eq_true rfl) ⟨by simp only [sg_rm]; omega, by simp only [sg_rm]; omega⟩ dX12_isSo_62) (fun u33 h34 hf => ?_)
      refine gw_if_ne F (tgt := 72) dX12_isSo_65 (by decide) (sg_B_R h34) (fun c35 => ?_) (fun c35 => ?_)
      · have hf := hf.1 c35
        refine gw_iconst F dX12_isSo_72 ?_
        exact gr_PZ F (by decide) hf (by decide) (by decide) dX12_isSo_73
      · have hf := hf.2 c35
        refine gw_iconst F dX12_isSo_68 ?_
        refine gw_goto F (tgt := 73) dX12_isSo_69 (by decide) ?_
        exact gr_PZ F (by decide) hf (by decide) (by decide) dX12_isSo_73
    · have hf := hf.2.2.1 (by omega)
      refine ⟨60, 74, rfl, by decide, ?_⟩
      refine gw_aload_n F 1 rfl rfl (by decide) dX12_isSo_74 ?_
      refine gw_aload_n F 1 rfl rfl (by decide) dX12_isSo_75 ?_
      refine gw_get7 F (so_64 hst) (by decide) rfl sg_lay_RX12 (j := 14) (by decide) (o1 := 66) (by first | rfl | omega) rfl (host := "") (.inl kw_970) dX12_isSo_76 (fun h36 => ?_)
      refine gw_iload_n F 0 rfl rfl dX12_isSo_79 ?_
      refine gw_iconst F dX12_isSo_80 ?_
      refine gw_iadd F rfl dX12_isSo_81 ?_
      obtain ⟨⟨b370, b371⟩, hf⟩ := hf
      refine gw_iald F (sa_66 hst) b370 b371 dX12_isSo_82 (fun h38 => ?_)
      refine gw_iload_n F 3 rfl rfl dX12_isSo_83 ?_
      refine gk_PZ F (gc_V F (S := []) (As := [sg_i (s0 66 ((1800 + (4 * x1)) + 1)), sg_i x2]) (T := TX12) (N := 62) (ih0 h38 r2 hf) (so_64 hst) (by decide) rfl kw_1335 kw_103 kw_1333 kw_1334 kw_87 hcX12_isSo ⟨by simp only [sg_rm]; omega, by simp only [sg_rm]; omega⟩ rfl rfl (Nat.le_of_ble_eq_true rfl) ⟨by simp only [sg_rm]; omega, by simp only [sg_rm]; omega⟩ dX12_isSo_84) (fun u39 h40 hf => ?_)
      refine gw_if_eq F (tgt := 110) dX12_isSo_87 (by decide) (sg_B_R h40) (fun c41 => ?_) (fun c41 => ?_)
      · have hf := hf.1 c41
        refine gw_iconst F dX12_isSo_110 ?_
        exact gr_PZ F (by decide) hf (by decide) (by decide) dX12_isSo_111
      · have hf := hf.2 c41
        refine gw_aload_n F 1 rfl rfl (by decide) dX12_isSo_90 ?_
        refine gw_aload_n F 1 rfl rfl (by decide) dX12_isSo_91 ?_
        refine gw_get7 F (so_64 hst) (by decide) rfl sg_lay_RX12 (j := 14) (by decide) (o1 := 66) (by first | rfl | omega) rfl (host := "") (.inl kw_970) dX12_isSo_92 (fun h42 => ?_)
        refine gw_iload_n F 0 rfl rfl dX12_isSo_95 ?_
        refine gw_iconst F dX12_isSo_96 ?_
        refine gw_iadd F rfl dX12_isSo_97 ?_
        obtain ⟨⟨b430, b431⟩, hf⟩ := hf
        refine gw_iald F (sa_66 hst) b430 b431 dX12_isSo_98 (fun h44 => ?_)
        refine gw_iload_n F 3 rfl rfl dX12_isSo_99 ?_
        refine gk_PZ F (gc_V F (S := []) (As := [sg_i (s0 66 ((1800 + (4 * x1)) + 2)), sg_i x2]) (T := TX12) (N := 62) (ih0 h44 r2 hf) (so_64 hst) (by decide) rfl kw_1335 kw_103 kw_1333 kw_1334 kw_87 hcX12_isSo ⟨by simp only [sg_rm]; omega, by simp only [sg_rm]; omega⟩ rfl rfl (Nat.le_of_ble_eq_true rfl) ⟨by simp only [sg_rm]; omega, by simp only [sg_rm]; omega⟩ dX12_isSo_100) (fun u45 h46 hf => ?_)
        refine gw_if_eq F (tgt := 110) dX12_isSo_103 (by decide) (sg_B_R h46) (fun c47 => ?_) (fun c47 => ?_)
        · have hf := hf.1 c47
          refine gw_iconst F dX12_isSo_110 ?_
          exact gr_PZ F (by decide) hf (by decide) (by decide) dX12_isSo_111
        · have hf := hf.2 c47
          refine gw_iconst F dX12_isSo_106 ?_
          refine gw_goto F (tgt := 111) dX12_isSo_107 (by decide) ?_
          exact gr_PZ F (by decide) hf (by decide) (by decide) dX12_isSo_111
    · have hf := hf.2.2.2.1 (by omega)
      refine ⟨98, 112, rfl, by decide, ?_⟩
      refine gw_aload_n F 1 rfl rfl (by decide) dX12_isSo_112 ?_
      refine gw_aload_n F 1 rfl rfl (by decide) dX12_isSo_113 ?_
      refine gw_get7 F (so_64 hst) (by decide) rfl sg_lay_RX12 (j := 14) (by decide) (o1 := 66) (by first | rfl | omega) rfl (host := "") (.inl kw_970) dX12_isSo_114 (fun h48 => ?_)
      refine gw_iload_n F 0 rfl rfl dX12_isSo_117 ?_
      refine gw_iconst F dX12_isSo_118 ?_
      refine gw_iadd F rfl dX12_isSo_119 ?_
      obtain ⟨⟨b490, b491⟩, hf⟩ := hf
      refine gw_iald F (sa_66 hst) b490 b491 dX12_isSo_120 (fun h50 => ?_)
      refine gw_iload_n F 3 rfl rfl dX12_isSo_121 ?_
      refine gk_PZ F (gc_V F (S := []) (As := [sg_i (s0 66 ((1800 + (4 * x1)) + 1)), sg_i x2]) (T := TX12) (N := 62) (ih0 h50 r2 hf) (so_64 hst) (by decide) rfl kw_1335 kw_103 kw_1333 kw_1334 kw_87 hcX12_isSo ⟨by simp only [sg_rm]; omega, by simp only [sg_rm]; omega⟩ rfl rfl (Nat.le_of_ble_eq_true rfl) ⟨by simp only [sg_rm]; omega, by simp only [sg_rm]; omega⟩ dX12_isSo_122) (fun u51 h52 hf => ?_)
      refine gw_if_ne F (tgt := 144) dX12_isSo_125 (by decide) (sg_B_R h52) (fun c53 => ?_) (fun c53 => ?_)
      · have hf := hf.1 c53
        refine gw_iconst F dX12_isSo_144 ?_
        refine gw_goto F (tgt := 149) dX12_isSo_145 (by decide) ?_
        exact gr_PZ F (by decide) hf (by decide) (by decide) dX12_isSo_149
      · have hf := hf.2 c53
        refine gw_aload_n F 1 rfl rfl (by decide) dX12_isSo_128 ?_
        refine gw_aload_n F 1 rfl rfl (by decide) dX12_isSo_129 ?_
        refine gw_get7 F (so_64 hst) (by decide) rfl sg_lay_RX12 (j := 14) (by decide) (o1 := 66) (by first | rfl | omega) rfl (host := "") (.inl kw_970) dX12_isSo_130 (fun h54 => ?_)
        refine gw_iload_n F 0 rfl rfl dX12_isSo_133 ?_
        refine gw_iconst F dX12_isSo_134 ?_
        refine gw_iadd F rfl dX12_isSo_135 ?_
        obtain ⟨⟨b550, b551⟩, hf⟩ := hf
        refine gw_iald F (sa_66 hst) b550 b551 dX12_isSo_136 (fun h56 => ?_)
        refine gw_iload_n F 3 rfl rfl dX12_isSo_137 ?_
        refine gk_PZ F (gc_V F (S := []) (As := [sg_i (s0 66 ((1800 + (4 * x1)) + 2)), sg_i x2]) (T := TX12) (N := 62) (ih0 h56 r2 hf) (so_64 hst) (by decide) rfl kw_1335 kw_103 kw_1333 kw_1334 kw_87 hcX12_isSo ⟨by simp only [sg_rm]; omega, by simp only [sg_rm]; omega⟩ rfl rfl (Nat.le_of_ble_eq_true rfl) ⟨by simp only [sg_rm]; omega, by simp only [sg_rm]; omega⟩ dX12_isSo_138) (fun u57 h58 hf => ?_)
        refine gw_if_eq F (tgt := 148) dX12_isSo_141 (by decide) (sg_B_R h58) (fun c59 => ?_) (fun c59 => ?_)
        · have hf := hf.1 c59
          refine gw_iconst F dX12_isSo_148 ?_
          exact gr_PZ F (by decide) hf (by decide) (by decide) dX12_isSo_149
        · have hf := hf.2 c59
          refine gw_iconst F dX12_isSo_144 ?_
          refine gw_goto F (tgt := 149) dX12_isSo_145 (by decide) ?_
          exact gr_PZ F (by decide) hf (by decide) (by decide) dX12_isSo_149
    · have hf := hf.2.2.2.2.1 (by omega)
      refine ⟨136, 150, rfl, by decide, ?_⟩
      refine gw_aload_n F 1 rfl rfl (by decide) dX12_isSo_150 ?_
      refine gw_get0 F (so_64 hst) (by decide) rfl sg_lay_RX12 (j := 39) (by decide) rfl (host := "") (.inl kw_995) dX12_isSo_151 (fun h60 => ?_)
      refine gw_if_le F (tgt := 161) dX12_isSo_154 (by decide) h60 (fun c61 => ?_) (fun c61 => ?_)
      · have hf := hf.1 c61
        refine gw_iconst F dX12_isSo_161 ?_
        exact gr_PZ F (by decide) hf (by decide) (by decide) dX12_isSo_162
      · have hf := hf.2 c61
        refine gw_iconst F dX12_isSo_157 ?_
        refine gw_goto F (tgt := 162) dX12_isSo_158 (by decide) ?_
        exact gr_PZ F (by decide) hf (by decide) (by decide) dX12_isSo_162
    · have hf := hf.2.2.2.2.2.1 (by omega)
      refine ⟨149, 163, rfl, by decide, ?_⟩
      refine gw_aload_n F 1 rfl rfl (by decide) dX12_isSo_163 ?_
      refine gw_get0 F (so_64 hst) (by decide) rfl sg_lay_RX12 (j := 30) (by decide) rfl (host := "") (.inl kw_986) dX12_isSo_164 (fun h62 => ?_)
      refine gw_iconst F dX12_isSo_167 ?_
      refine gw_icmp_eq F (tgt := 175) dX12_isSo_168 (by decide) h62 (by decide) (fun c63 => ?_) (fun c63 => ?_)
      · have hf := hf.1 c63
        refine gw_iconst F dX12_isSo_175 ?_
        exact gr_PZ F (by decide) hf (by decide) (by decide) dX12_isSo_176
      · have hf := hf.2 c63
        refine gw_iconst F dX12_isSo_171 ?_
        refine gw_goto F (tgt := 176) dX12_isSo_172 (by decide) ?_
        exact gr_PZ F (by decide) hf (by decide) (by decide) dX12_isSo_176
    · have hf := hf.2.2.2.2.2.2 (by omega)
      refine ⟨163, 177, rfl, by decide, ?_⟩
      refine gw_aload_n F 1 rfl rfl (by decide) dX12_isSo_177 ?_
      refine gw_get1 F (so_64 hst) (by decide) rfl sg_lay_RX12 (j := 42) (by decide) rfl (host := "") (.inl kw_998) dX12_isSo_178 (fun h64 => ?_)
      exact gr_PZ F h64 hf (by decide) (by decide) dX12_isSo_181

def g_mS : Nat → Nat → sg_M → Int → Int → (Int → Prop) → Prop
  | 0, _, _, _, _, _ => False
  | n + 1, t, s0, x1, x2, Q => fX12_isSo_b (g_mS n) s0 x1 x2 Q
theorem G_mS {l : Launch} {G : sg_G} {La : sg_L} (hst : sg_St La) : ∀ n : Nat, (∀ {s0 : sg_M} {x1 : Int} (r1 : sg_R x1) {x2 : Int} (r2 : sg_R x2) {Q : Int → Prop}, g_mS n 0 s0 x1 x2 Q → sg_C l G yX12_isSo cX12_isSo 5 (some .boolean) (1 + n) 0 0 La s0 [sg_r 64, sg_i x1, sg_i x2] (sg_PZ La s0 Q)) := by
  intro n
  induction n with
  | zero => exact (by intro s0 x1 r1 x2 r2 Q hf; exact (show False from hf).elim)
  | succ n ih =>
    exact (by intro s0 x1 r1 x2 r2 Q hf; exact CX12_isSo_b (d := 1 + n) hst r1 r2 (Nat.le_add_right _ _) ih hf)

theorem hcX12_readOr : yX12_readOr.cls ≠ "java/lang/invoke/MethodHandle" ∧ yX12_readOr.cls ≠ "java/lang/invoke/VarHandle" ∧ (parseMethodDescriptor yX12_readOr.desc).map (fun d => d.parameters.length) = some 0 := ⟨by decide +kernel, by decide +kernel, by decide +kernel⟩
theorem hcX12_readAnd : yX12_readAnd.cls ≠ "java/lang/invoke/MethodHandle" ∧ yX12_readAnd.cls ≠ "java/lang/invoke/VarHandle" ∧ (parseMethodDescriptor yX12_readAnd.desc).map (fun d => d.parameters.length) = some 0 := ⟨by decide +kernel, by decide +kernel, by decide +kernel⟩
theorem hcX12_readOne : yX12_readOne.cls ≠ "java/lang/invoke/MethodHandle" ∧ yX12_readOne.cls ≠ "java/lang/invoke/VarHandle" ∧ (parseMethodDescriptor yX12_readOne.desc).map (fun d => d.parameters.length) = some 0 := ⟨by decide +kernel, by decide +kernel, by decide +kernel⟩
theorem hcX12_readNot : yX12_readNot.cls ≠ "java/lang/invoke/MethodHandle" ∧ yX12_readNot.cls ≠ "java/lang/invoke/VarHandle" ∧ (parseMethodDescriptor yX12_readNot.desc).map (fun d => d.parameters.length) = some 0 := ⟨by decide +kernel, by decide +kernel, by decide +kernel⟩
theorem hcX12_readBracket : yX12_readBracket.cls ≠ "java/lang/invoke/MethodHandle" ∧ yX12_readBracket.cls ≠ "java/lang/invoke/VarHandle" ∧ (parseMethodDescriptor yX12_readBracket.desc).map (fun d => d.parameters.length) = some 0 := ⟨by decide +kernel, by decide +kernel, by decide +kernel⟩
theorem dX12_readOr_0 : decode cX12_readOr 0 = .ok (.aload_n 0, 1) := by decide +kernel
theorem dX12_readOr_1 : decode cX12_readOr 1 = .ok (.invokevirtual 365, 3) := by decide +kernel
theorem dX12_readOr_4 : decode cX12_readOr 4 = .ok (.ifCond .ne 5, 3) := by decide +kernel
theorem dX12_readOr_7 : decode cX12_readOr 7 = .ok (.iconst 0, 1) := by decide +kernel
theorem dX12_readOr_8 : decode cX12_readOr 8 = .ok (.ireturn, 1) := by decide +kernel
theorem dX12_readOr_9 : decode cX12_readOr 9 = .ok (.aload_n 0, 1) := by decide +kernel
theorem dX12_readOr_10 : decode cX12_readOr 10 = .ok (.getfield 368, 3) := by decide +kernel
theorem dX12_readOr_13 : decode cX12_readOr 13 = .ok (.istore_n 1, 1) := by decide +kernel
theorem dX12_readOr_14 : decode cX12_readOr 14 = .ok (.aload_n 0, 1) := by decide +kernel
theorem dX12_readOr_15 : decode cX12_readOr 15 = .ok (.bipush 10, 2) := by decide +kernel
theorem dX12_readOr_17 : decode cX12_readOr 17 = .ok (.invokevirtual 172, 3) := by decide +kernel
theorem dX12_readOr_20 : decode cX12_readOr 20 = .ok (.ifCond .eq 31, 3) := by decide +kernel
theorem dX12_readOr_23 : decode cX12_readOr 23 = .ok (.aload_n 0, 1) := by decide +kernel
theorem dX12_readOr_24 : decode cX12_readOr 24 = .ok (.invokevirtual 162, 3) := by decide +kernel
theorem dX12_readOr_27 : decode cX12_readOr 27 = .ok (.aload_n 0, 1) := by decide +kernel
theorem dX12_readOr_28 : decode cX12_readOr 28 = .ok (.invokevirtual 365, 3) := by decide +kernel
theorem dX12_readOr_31 : decode cX12_readOr 31 = .ok (.ifCond .ne 5, 3) := by decide +kernel
theorem dX12_readOr_34 : decode cX12_readOr 34 = .ok (.iconst 0, 1) := by decide +kernel
theorem dX12_readOr_35 : decode cX12_readOr 35 = .ok (.ireturn, 1) := by decide +kernel
theorem dX12_readOr_36 : decode cX12_readOr 36 = .ok (.aload_n 0, 1) := by decide +kernel
theorem dX12_readOr_37 : decode cX12_readOr 37 = .ok (.iconst 3, 1) := by decide +kernel
theorem dX12_readOr_38 : decode cX12_readOr 38 = .ok (.iload_n 1, 1) := by decide +kernel
theorem dX12_readOr_39 : decode cX12_readOr 39 = .ok (.aload_n 0, 1) := by decide +kernel
theorem dX12_readOr_40 : decode cX12_readOr 40 = .ok (.getfield 368, 3) := by decide +kernel
theorem dX12_readOr_43 : decode cX12_readOr 43 = .ok (.iconst 0, 1) := by decide +kernel
theorem dX12_readOr_44 : decode cX12_readOr 44 = .ok (.invokevirtual 371, 3) := by decide +kernel
theorem dX12_readOr_47 : decode cX12_readOr 47 = .ok (.istore_n 1, 1) := by decide +kernel
theorem dX12_readOr_48 : decode cX12_readOr 48 = .ok (.goto (-34), 3) := by decide +kernel
theorem dX12_readOr_51 : decode cX12_readOr 51 = .ok (.aload_n 0, 1) := by decide +kernel
theorem dX12_readOr_52 : decode cX12_readOr 52 = .ok (.iload_n 1, 1) := by decide +kernel
theorem dX12_readOr_53 : decode cX12_readOr 53 = .ok (.putfield 368, 3) := by decide +kernel
theorem dX12_readOr_56 : decode cX12_readOr 56 = .ok (.iconst 1, 1) := by decide +kernel
theorem dX12_readOr_57 : decode cX12_readOr 57 = .ok (.ireturn, 1) := by decide +kernel
def fX12_readOr_L14 (rc : Nat → sg_M → (Int → sg_M → Prop) → Prop) (Q : Int → sg_M → Prop) : Nat → sg_M → Int → Prop
  | 0, _, _ => False
  | n_14 + 1, s_14, x1_14 => fX12_isWord s_14 10 (fun u6 => ((u6 = 0 → ∀ s9 : sg_M, s9 = sg_up s_14 64 61 x1_14 → Q 1 s9) ∧ (¬ (u6 = 0) → fX12_go s_14 (fun s11 => rc 1 s11 (fun u12 s14 => ((u12 ≠ 0 → fX12_lays s14 3 x1_14 (s14 64 61) 0 (fun u17 s19 => (fX12_readOr_L14 rc Q n_14) s19 u17)) ∧ (u12 = 0 → Q 0 s14)))))))
def fX12_readOr_b (rc : Nat → sg_M → (Int → sg_M → Prop) → Prop) (s0 : sg_M) (Q : Int → sg_M → Prop) : Prop := rc 1 s0 (fun u1 s3 => ((u1 ≠ 0 → (∃ n20 : Nat, fX12_readOr_L14 rc Q n20 s3 (s3 64 61))) ∧ (u1 = 0 → Q 0 s3)))
set_option maxHeartbeats 4000000 in
set_option maxRecDepth 100000 in
theorem CX12_readOr_b {l : Launch} {G : sg_G} {La : sg_L} {s0 : sg_M} (hst : sg_St La) {Q : Int → sg_M → Prop} {d : Nat} (hd : 4 ≤ d) {rc : Nat → sg_M → (Int → sg_M → Prop) → Prop} (ih0 : ∀ {s0 : sg_M}  {Q : Int → sg_M → Prop}, rc 0 s0 Q → sg_C l G yX12_readOr cX12_readOr 2 (some .boolean) d 0 0 La s0 [sg_r 64] (sg_HZ La Q)) (ih1 : ∀ {s0 : sg_M}  {Q : Int → sg_M → Prop}, rc 1 s0 Q → sg_C l G yX12_readAnd cX12_readAnd 2 (some .boolean) d 0 0 La s0 [sg_r 64] (sg_HZ La Q)) (ih2 : ∀ {s0 : sg_M}  {Q : Int → sg_M → Prop}, rc 2 s0 Q → sg_C l G yX12_readOne cX12_readOne 6 (some .boolean) d 0 0 La s0 [sg_r 64] (sg_HZ La Q)) (ih3 : ∀ {s0 : sg_M}  {Q : Int → sg_M → Prop}, rc 3 s0 Q → sg_C l G yX12_readNot cX12_readNot 1 (some .boolean) d 0 0 La s0 [sg_r 64] (sg_HZ La Q)) (ih4 : ∀ {s0 : sg_M}  {Q : Int → sg_M → Prop}, rc 4 s0 Q → sg_C l G yX12_readBracket cX12_readBracket 1 (some .boolean) d 0 0 La s0 [sg_r 64] (sg_HZ La Q)) (hf : fX12_readOr_b rc s0 Q) : sg_C l G yX12_readOr cX12_readOr 2 (some .boolean) (d + 1) 0 0 La s0 [sg_r 64] (sg_HZ La Q) := by
  refine sg_body (by decide +kernel) (Nat.le_of_ble_eq_true rfl) ?_
  intro p e s m args below meth c F hnm
  unfold fX12_readOr_b at hf
  show sg_W p l e (sg_rm (d + 1) 0 0) s m args below meth c (MQ below (sg_Q (some .boolean) G La s.heap.size (sg_HZ La Q)) args s 0 0 (sg_A La s.heap.size)) 2 G (sg_A La s.heap.size) La s0 0 0 0 [(0, sg_r 64)] []
  refine gw_aload_n F 0 rfl rfl (by decide) dX12_readOr_0 ?_
  refine gk_HZ F (gc_V F (S := []) (As := []) (T := TX12) (N := 62) (ih1  hf) (so_64 hst) (by decide) rfl kw_1313 kw_103 kw_1311 kw_1312 kw_81 hcX12_readAnd ⟨by simp only [sg_rm]; omega, by simp only [sg_rm]; omega⟩ rfl rfl (Nat.le_of_ble_eq_true rfl) ⟨by simp only [sg_rm]; omega, by simp only [sg_rm]; omega⟩ dX12_readOr_1) (fun u1 s3 h2 hf => ?_)
  refine gw_if_ne F (tgt := 9) dX12_readOr_4 (by decide) (sg_B_R h2) (fun c4 => ?_) (fun c4 => ?_)
  · have hf := hf.1 c4
    refine gw_aload_n F 0 rfl rfl (by decide) dX12_readOr_9 ?_
    refine gw_get0 F (so_64 hst) (by decide) rfl sg_lay_RX12 (j := 61) (by decide) rfl (host := "") (.inl kw_1017) dX12_readOr_10 (fun h5 => ?_)
    refine gw_istore_n F rfl (by decide) rfl dX12_readOr_13 ?_
    have L14 : ∀ n_14 : Nat, ∀ (s_14 : sg_M) (x1_14 : Int), sg_R x1_14 → fX12_readOr_L14 rc Q n_14 s_14 x1_14 → sg_W p l e (sg_rm (d + 1) 0 0) s m args below meth c (MQ below (sg_Q (some .boolean) G La s.heap.size (sg_HZ La Q)) args s 0 0 (sg_A La s.heap.size)) 2 G (sg_A La s.heap.size) La s_14 0 0 14 [(0, sg_r 64), (1, sg_i x1_14)] [] := by
      intro n_14
      induction n_14 with
      | zero => intro s_14 x1_14 r1_14 hf; exact hf.elim
      | succ n_14 ih =>
        intro s_14 x1_14 r1_14 hf
        unfold fX12_readOr_L14 at hf
        refine gw_aload_n F 0 rfl rfl (by decide) dX12_readOr_14 ?_
        refine gw_bipush F rfl dX12_readOr_15 ?_
        refine gk_PZ F (gc_V F (S := []) (As := [sg_i 10]) (T := TX12) (N := 62) (CX12_isWord hst (by decide) hf) (so_64 hst) (by decide) rfl kw_1066 kw_103 kw_1064 kw_1065 kw_46 hcX12_isWord ⟨by simp only [sg_rm]; omega, by simp only [sg_rm]; omega⟩ rfl rfl (Nat.le_of_ble_eq_true rfl) ⟨by simp only [sg_rm]; omega, by simp only [sg_rm]; omega⟩ dX12_readOr_17) (fun u6 h7 hf => ?_)
        refine gw_if_eq F (tgt := 51) dX12_readOr_20 (by decide) (sg_B_R h7) (fun c8 => ?_) (fun c8 => ?_)
        · have hf := hf.1 c8
          refine gw_aload_n F 0 rfl rfl (by decide) dX12_readOr_51 ?_
          refine gw_iload_n F 1 rfl rfl dX12_readOr_52 ?_
          obtain ⟨s9, e10⟩ : ∃ z : sg_M, z = sg_up s_14 64 61 x1_14 := ⟨_, rfl⟩
          have hf := hf s9 e10
          refine gw_put0 F (so_64 hst) (by decide) rfl sg_lay_RX12 (j := 61) (by decide) r1_14 e10 tyX12_ok nmX12 rfl (tyX12_ok 61 (by decide)) rfl (host := "") (.inl kw_1017) dX12_readOr_53 ?_
          refine gw_iconst F dX12_readOr_56 ?_
          exact gr_HZ F (by decide) hf (by decide) (by decide) dX12_readOr_57
        · have hf := hf.2 c8
          refine gw_aload_n F 0 rfl rfl (by decide) dX12_readOr_23 ?_
          refine gk_HV F (gc_V F (S := []) (As := []) (T := TX12) (N := 62) (CX12_go hst hf) (so_64 hst) (by decide) rfl kw_1049 kw_103 kw_1047 kw_1048 kw_43 hcX12_go ⟨by simp only [sg_rm]; omega, by simp only [sg_rm]; omega⟩ rfl rfl (Nat.le_of_ble_eq_true rfl) ⟨by simp only [sg_rm]; omega, by simp only [sg_rm]; omega⟩ dX12_readOr_24) (fun s11 hf => ?_)
          refine gw_aload_n F 0 rfl rfl (by decide) dX12_readOr_27 ?_
          refine gk_HZ F (gc_V F (S := []) (As := []) (T := TX12) (N := 62) (ih1  hf) (so_64 hst) (by decide) rfl kw_1313 kw_103 kw_1311 kw_1312 kw_81 hcX12_readAnd ⟨by simp only [sg_rm]; omega, by simp only [sg_rm]; omega⟩ rfl rfl (Nat.le_of_ble_eq_true rfl) ⟨by simp only [sg_rm]; omega, by simp only [sg_rm]; omega⟩ dX12_readOr_28) (fun u12 s14 h13 hf => ?_)
          refine gw_if_ne F (tgt := 36) dX12_readOr_31 (by decide) (sg_B_R h13) (fun c15 => ?_) (fun c15 => ?_)
          · have hf := hf.1 c15
            refine gw_aload_n F 0 rfl rfl (by decide) dX12_readOr_36 ?_
            refine gw_iconst F dX12_readOr_37 ?_
            refine gw_iload_n F 1 rfl rfl dX12_readOr_38 ?_
            refine gw_aload_n F 0 rfl rfl (by decide) dX12_readOr_39 ?_
            refine gw_get0 F (so_64 hst) (by decide) rfl sg_lay_RX12 (j := 61) (by decide) rfl (host := "") (.inl kw_1017) dX12_readOr_40 (fun h16 => ?_)
            refine gw_iconst F dX12_readOr_43 ?_
            refine gk_HI F (gc_V F (S := []) (As := [sg_i 3, sg_i x1_14, sg_i (s14 64 61), sg_i 0]) (T := TX12) (N := 62) (CX12_lays hst (by decide) r1_14 h16 (by decide) hf) (so_64 hst) (by decide) rfl kw_1325 kw_103 kw_1323 kw_1324 kw_85 hcX12_lays ⟨by simp only [sg_rm]; omega, by simp only [sg_rm]; omega⟩ rfl rfl (Nat.le_of_ble_eq_true rfl) ⟨by simp only [sg_rm]; omega, by simp only [sg_rm]; omega⟩ dX12_readOr_44) (fun u17 s19 h18 hf => ?_)
            refine gw_istore_n F rfl (by decide) rfl dX12_readOr_47 ?_
            refine gw_goto F (tgt := 14) dX12_readOr_48 (by decide) ?_
            refine gw_sub [1, 0] rfl ?_
            exact ih s19 u17 h18 hf
          · have hf := hf.2 c15
            refine gw_iconst F dX12_readOr_34 ?_
            exact gr_HZ F (by decide) hf (by decide) (by decide) dX12_readOr_35
    obtain ⟨n20, hf⟩ := hf
    refine gw_sub [1, 0] rfl ?_
    refine L14   n20 s3 (s3 64 61) h5 hf
  · have hf := hf.2 c4
    refine gw_iconst F dX12_readOr_7 ?_
    exact gr_HZ F (by decide) hf (by decide) (by decide) dX12_readOr_8

theorem dX12_readAnd_0 : decode cX12_readAnd 0 = .ok (.aload_n 0, 1) := by decide +kernel
theorem dX12_readAnd_1 : decode cX12_readAnd 1 = .ok (.invokevirtual 375, 3) := by decide +kernel
theorem dX12_readAnd_4 : decode cX12_readAnd 4 = .ok (.ifCond .ne 5, 3) := by decide +kernel
theorem dX12_readAnd_7 : decode cX12_readAnd 7 = .ok (.iconst 0, 1) := by decide +kernel
theorem dX12_readAnd_8 : decode cX12_readAnd 8 = .ok (.ireturn, 1) := by decide +kernel
theorem dX12_readAnd_9 : decode cX12_readAnd 9 = .ok (.aload_n 0, 1) := by decide +kernel
theorem dX12_readAnd_10 : decode cX12_readAnd 10 = .ok (.getfield 368, 3) := by decide +kernel
theorem dX12_readAnd_13 : decode cX12_readAnd 13 = .ok (.istore_n 1, 1) := by decide +kernel
theorem dX12_readAnd_14 : decode cX12_readAnd 14 = .ok (.aload_n 0, 1) := by decide +kernel
theorem dX12_readAnd_15 : decode cX12_readAnd 15 = .ok (.bipush 11, 2) := by decide +kernel
theorem dX12_readAnd_17 : decode cX12_readAnd 17 = .ok (.invokevirtual 172, 3) := by decide +kernel
theorem dX12_readAnd_20 : decode cX12_readAnd 20 = .ok (.ifCond .eq 31, 3) := by decide +kernel
theorem dX12_readAnd_23 : decode cX12_readAnd 23 = .ok (.aload_n 0, 1) := by decide +kernel
theorem dX12_readAnd_24 : decode cX12_readAnd 24 = .ok (.invokevirtual 162, 3) := by decide +kernel
theorem dX12_readAnd_27 : decode cX12_readAnd 27 = .ok (.aload_n 0, 1) := by decide +kernel
theorem dX12_readAnd_28 : decode cX12_readAnd 28 = .ok (.invokevirtual 375, 3) := by decide +kernel
theorem dX12_readAnd_31 : decode cX12_readAnd 31 = .ok (.ifCond .ne 5, 3) := by decide +kernel
theorem dX12_readAnd_34 : decode cX12_readAnd 34 = .ok (.iconst 0, 1) := by decide +kernel
theorem dX12_readAnd_35 : decode cX12_readAnd 35 = .ok (.ireturn, 1) := by decide +kernel
theorem dX12_readAnd_36 : decode cX12_readAnd 36 = .ok (.aload_n 0, 1) := by decide +kernel
theorem dX12_readAnd_37 : decode cX12_readAnd 37 = .ok (.iconst 2, 1) := by decide +kernel
theorem dX12_readAnd_38 : decode cX12_readAnd 38 = .ok (.iload_n 1, 1) := by decide +kernel
theorem dX12_readAnd_39 : decode cX12_readAnd 39 = .ok (.aload_n 0, 1) := by decide +kernel
theorem dX12_readAnd_40 : decode cX12_readAnd 40 = .ok (.getfield 368, 3) := by decide +kernel
theorem dX12_readAnd_43 : decode cX12_readAnd 43 = .ok (.iconst 0, 1) := by decide +kernel
theorem dX12_readAnd_44 : decode cX12_readAnd 44 = .ok (.invokevirtual 371, 3) := by decide +kernel
theorem dX12_readAnd_47 : decode cX12_readAnd 47 = .ok (.istore_n 1, 1) := by decide +kernel
theorem dX12_readAnd_48 : decode cX12_readAnd 48 = .ok (.goto (-34), 3) := by decide +kernel
theorem dX12_readAnd_51 : decode cX12_readAnd 51 = .ok (.aload_n 0, 1) := by decide +kernel
theorem dX12_readAnd_52 : decode cX12_readAnd 52 = .ok (.iload_n 1, 1) := by decide +kernel
theorem dX12_readAnd_53 : decode cX12_readAnd 53 = .ok (.putfield 368, 3) := by decide +kernel
theorem dX12_readAnd_56 : decode cX12_readAnd 56 = .ok (.iconst 1, 1) := by decide +kernel
theorem dX12_readAnd_57 : decode cX12_readAnd 57 = .ok (.ireturn, 1) := by decide +kernel
def fX12_readAnd_L14 (rc : Nat → sg_M → (Int → sg_M → Prop) → Prop) (Q : Int → sg_M → Prop) : Nat → sg_M → Int → Prop
  | 0, _, _ => False
  | n_14 + 1, s_14, x1_14 => fX12_isWord s_14 11 (fun u6 => ((u6 = 0 → ∀ s9 : sg_M, s9 = sg_up s_14 64 61 x1_14 → Q 1 s9) ∧ (¬ (u6 = 0) → fX12_go s_14 (fun s11 => rc 2 s11 (fun u12 s14 => ((u12 ≠ 0 → fX12_lays s14 2 x1_14 (s14 64 61) 0 (fun u17 s19 => (fX12_readAnd_L14 rc Q n_14) s19 u17)) ∧ (u12 = 0 → Q 0 s14)))))))
def fX12_readAnd_b (rc : Nat → sg_M → (Int → sg_M → Prop) → Prop) (s0 : sg_M) (Q : Int → sg_M → Prop) : Prop := rc 2 s0 (fun u1 s3 => ((u1 ≠ 0 → (∃ n20 : Nat, fX12_readAnd_L14 rc Q n20 s3 (s3 64 61))) ∧ (u1 = 0 → Q 0 s3)))
set_option maxHeartbeats 4000000 in
set_option maxRecDepth 100000 in
theorem CX12_readAnd_b {l : Launch} {G : sg_G} {La : sg_L} {s0 : sg_M} (hst : sg_St La) {Q : Int → sg_M → Prop} {d : Nat} (hd : 4 ≤ d) {rc : Nat → sg_M → (Int → sg_M → Prop) → Prop} (ih0 : ∀ {s0 : sg_M}  {Q : Int → sg_M → Prop}, rc 0 s0 Q → sg_C l G yX12_readOr cX12_readOr 2 (some .boolean) d 0 0 La s0 [sg_r 64] (sg_HZ La Q)) (ih1 : ∀ {s0 : sg_M}  {Q : Int → sg_M → Prop}, rc 1 s0 Q → sg_C l G yX12_readAnd cX12_readAnd 2 (some .boolean) d 0 0 La s0 [sg_r 64] (sg_HZ La Q)) (ih2 : ∀ {s0 : sg_M}  {Q : Int → sg_M → Prop}, rc 2 s0 Q → sg_C l G yX12_readOne cX12_readOne 6 (some .boolean) d 0 0 La s0 [sg_r 64] (sg_HZ La Q)) (ih3 : ∀ {s0 : sg_M}  {Q : Int → sg_M → Prop}, rc 3 s0 Q → sg_C l G yX12_readNot cX12_readNot 1 (some .boolean) d 0 0 La s0 [sg_r 64] (sg_HZ La Q)) (ih4 : ∀ {s0 : sg_M}  {Q : Int → sg_M → Prop}, rc 4 s0 Q → sg_C l G yX12_readBracket cX12_readBracket 1 (some .boolean) d 0 0 La s0 [sg_r 64] (sg_HZ La Q)) (hf : fX12_readAnd_b rc s0 Q) : sg_C l G yX12_readAnd cX12_readAnd 2 (some .boolean) (d + 1) 0 0 La s0 [sg_r 64] (sg_HZ La Q) := by
  refine sg_body (by decide +kernel) (Nat.le_of_ble_eq_true rfl) ?_
  intro p e s m args below meth c F hnm
  unfold fX12_readAnd_b at hf
  show sg_W p l e (sg_rm (d + 1) 0 0) s m args below meth c (MQ below (sg_Q (some .boolean) G La s.heap.size (sg_HZ La Q)) args s 0 0 (sg_A La s.heap.size)) 2 G (sg_A La s.heap.size) La s0 0 0 0 [(0, sg_r 64)] []
  refine gw_aload_n F 0 rfl rfl (by decide) dX12_readAnd_0 ?_
  refine gk_HZ F (gc_V F (S := []) (As := []) (T := TX12) (N := 62) (ih2  hf) (so_64 hst) (by decide) rfl kw_1316 kw_103 kw_1314 kw_1315 kw_82 hcX12_readOne ⟨by simp only [sg_rm]; omega, by simp only [sg_rm]; omega⟩ rfl rfl (Nat.le_of_ble_eq_true rfl) ⟨by simp only [sg_rm]; omega, by simp only [sg_rm]; omega⟩ dX12_readAnd_1) (fun u1 s3 h2 hf => ?_)
  refine gw_if_ne F (tgt := 9) dX12_readAnd_4 (by decide) (sg_B_R h2) (fun c4 => ?_) (fun c4 => ?_)
  · have hf := hf.1 c4
    refine gw_aload_n F 0 rfl rfl (by decide) dX12_readAnd_9 ?_
    refine gw_get0 F (so_64 hst) (by decide) rfl sg_lay_RX12 (j := 61) (by decide) rfl (host := "") (.inl kw_1017) dX12_readAnd_10 (fun h5 => ?_)
    refine gw_istore_n F rfl (by decide) rfl dX12_readAnd_13 ?_
    have L14 : ∀ n_14 : Nat, ∀ (s_14 : sg_M) (x1_14 : Int), sg_R x1_14 → fX12_readAnd_L14 rc Q n_14 s_14 x1_14 → sg_W p l e (sg_rm (d + 1) 0 0) s m args below meth c (MQ below (sg_Q (some .boolean) G La s.heap.size (sg_HZ La Q)) args s 0 0 (sg_A La s.heap.size)) 2 G (sg_A La s.heap.size) La s_14 0 0 14 [(0, sg_r 64), (1, sg_i x1_14)] [] := by
      intro n_14
      induction n_14 with
      | zero => intro s_14 x1_14 r1_14 hf; exact hf.elim
      | succ n_14 ih =>
        intro s_14 x1_14 r1_14 hf
        unfold fX12_readAnd_L14 at hf
        refine gw_aload_n F 0 rfl rfl (by decide) dX12_readAnd_14 ?_
        refine gw_bipush F rfl dX12_readAnd_15 ?_
        refine gk_PZ F (gc_V F (S := []) (As := [sg_i 11]) (T := TX12) (N := 62) (CX12_isWord hst (by decide) hf) (so_64 hst) (by decide) rfl kw_1066 kw_103 kw_1064 kw_1065 kw_46 hcX12_isWord ⟨by simp only [sg_rm]; omega, by simp only [sg_rm]; omega⟩ rfl rfl (Nat.le_of_ble_eq_true rfl) ⟨by simp only [sg_rm]; omega, by simp only [sg_rm]; omega⟩ dX12_readAnd_17) (fun u6 h7 hf => ?_)
        refine gw_if_eq F (tgt := 51) dX12_readAnd_20 (by decide) (sg_B_R h7) (fun c8 => ?_) (fun c8 => ?_)
        · have hf := hf.1 c8
          refine gw_aload_n F 0 rfl rfl (by decide) dX12_readAnd_51 ?_
          refine gw_iload_n F 1 rfl rfl dX12_readAnd_52 ?_
          obtain ⟨s9, e10⟩ : ∃ z : sg_M, z = sg_up s_14 64 61 x1_14 := ⟨_, rfl⟩
          have hf := hf s9 e10
          refine gw_put0 F (so_64 hst) (by decide) rfl sg_lay_RX12 (j := 61) (by decide) r1_14 e10 tyX12_ok nmX12 rfl (tyX12_ok 61 (by decide)) rfl (host := "") (.inl kw_1017) dX12_readAnd_53 ?_
          refine gw_iconst F dX12_readAnd_56 ?_
          exact gr_HZ F (by decide) hf (by decide) (by decide) dX12_readAnd_57
        · have hf := hf.2 c8
          refine gw_aload_n F 0 rfl rfl (by decide) dX12_readAnd_23 ?_
          refine gk_HV F (gc_V F (S := []) (As := []) (T := TX12) (N := 62) (CX12_go hst hf) (so_64 hst) (by decide) rfl kw_1049 kw_103 kw_1047 kw_1048 kw_43 hcX12_go ⟨by simp only [sg_rm]; omega, by simp only [sg_rm]; omega⟩ rfl rfl (Nat.le_of_ble_eq_true rfl) ⟨by simp only [sg_rm]; omega, by simp only [sg_rm]; omega⟩ dX12_readAnd_24) (fun s11 hf => ?_)
          refine gw_aload_n F 0 rfl rfl (by decide) dX12_readAnd_27 ?_
          refine gk_HZ F (gc_V F (S := []) (As := []) (T := TX12) (N := 62) (ih2  hf) (so_64 hst) (by decide) rfl kw_1316 kw_103 kw_1314 kw_1315 kw_82 hcX12_readOne ⟨by simp only [sg_rm]; omega, by simp only [sg_rm]; omega⟩ rfl rfl (Nat.le_of_ble_eq_true rfl) ⟨by simp only [sg_rm]; omega, by simp only [sg_rm]; omega⟩ dX12_readAnd_28) (fun u12 s14 h13 hf => ?_)
          refine gw_if_ne F (tgt := 36) dX12_readAnd_31 (by decide) (sg_B_R h13) (fun c15 => ?_) (fun c15 => ?_)
          · have hf := hf.1 c15
            refine gw_aload_n F 0 rfl rfl (by decide) dX12_readAnd_36 ?_
            refine gw_iconst F dX12_readAnd_37 ?_
            refine gw_iload_n F 1 rfl rfl dX12_readAnd_38 ?_
            refine gw_aload_n F 0 rfl rfl (by decide) dX12_readAnd_39 ?_
            refine gw_get0 F (so_64 hst) (by decide) rfl sg_lay_RX12 (j := 61) (by decide) rfl (host := "") (.inl kw_1017) dX12_readAnd_40 (fun h16 => ?_)
            refine gw_iconst F dX12_readAnd_43 ?_
            refine gk_HI F (gc_V F (S := []) (As := [sg_i 2, sg_i x1_14, sg_i (s14 64 61), sg_i 0]) (T := TX12) (N := 62) (CX12_lays hst (by decide) r1_14 h16 (by decide) hf) (so_64 hst) (by decide) rfl kw_1325 kw_103 kw_1323 kw_1324 kw_85 hcX12_lays ⟨by simp only [sg_rm]; omega, by simp only [sg_rm]; omega⟩ rfl rfl (Nat.le_of_ble_eq_true rfl) ⟨by simp only [sg_rm]; omega, by simp only [sg_rm]; omega⟩ dX12_readAnd_44) (fun u17 s19 h18 hf => ?_)
            refine gw_istore_n F rfl (by decide) rfl dX12_readAnd_47 ?_
            refine gw_goto F (tgt := 14) dX12_readAnd_48 (by decide) ?_
            refine gw_sub [1, 0] rfl ?_
            exact ih s19 u17 h18 hf
          · have hf := hf.2 c15
            refine gw_iconst F dX12_readAnd_34 ?_
            exact gr_HZ F (by decide) hf (by decide) (by decide) dX12_readAnd_35
    obtain ⟨n20, hf⟩ := hf
    refine gw_sub [1, 0] rfl ?_
    refine L14   n20 s3 (s3 64 61) h5 hf
  · have hf := hf.2 c4
    refine gw_iconst F dX12_readAnd_7 ?_
    exact gr_HZ F (by decide) hf (by decide) (by decide) dX12_readAnd_8

theorem dX12_readOne_0 : decode cX12_readOne 0 = .ok (.aload_n 0, 1) := by decide +kernel
theorem dX12_readOne_1 : decode cX12_readOne 1 = .ok (.bipush 40, 2) := by decide +kernel
theorem dX12_readOne_3 : decode cX12_readOne 3 = .ok (.invokevirtual 165, 3) := by decide +kernel
theorem dX12_readOne_6 : decode cX12_readOne 6 = .ok (.istore_n 1, 1) := by decide +kernel
theorem dX12_readOne_7 : decode cX12_readOne 7 = .ok (.aload_n 0, 1) := by decide +kernel
theorem dX12_readOne_8 : decode cX12_readOne 8 = .ok (.bipush 12, 2) := by decide +kernel
theorem dX12_readOne_10 : decode cX12_readOne 10 = .ok (.invokevirtual 172, 3) := by decide +kernel
theorem dX12_readOne_13 : decode cX12_readOne 13 = .ok (.istore_n 2, 1) := by decide +kernel
theorem dX12_readOne_14 : decode cX12_readOne 14 = .ok (.aload_n 0, 1) := by decide +kernel
theorem dX12_readOne_15 : decode cX12_readOne 15 = .ok (.bipush 13, 2) := by decide +kernel
theorem dX12_readOne_17 : decode cX12_readOne 17 = .ok (.invokevirtual 172, 3) := by decide +kernel
theorem dX12_readOne_20 : decode cX12_readOne 20 = .ok (.ifCond .eq 7, 3) := by decide +kernel
theorem dX12_readOne_23 : decode cX12_readOne 23 = .ok (.iconst 4, 1) := by decide +kernel
theorem dX12_readOne_24 : decode cX12_readOne 24 = .ok (.goto 31, 3) := by decide +kernel
theorem dX12_readOne_27 : decode cX12_readOne 27 = .ok (.aload_n 0, 1) := by decide +kernel
theorem dX12_readOne_28 : decode cX12_readOne 28 = .ok (.bipush 14, 2) := by decide +kernel
theorem dX12_readOne_30 : decode cX12_readOne 30 = .ok (.invokevirtual 172, 3) := by decide +kernel
theorem dX12_readOne_33 : decode cX12_readOne 33 = .ok (.ifCond .eq 7, 3) := by decide +kernel
theorem dX12_readOne_36 : decode cX12_readOne 36 = .ok (.iconst 5, 1) := by decide +kernel
theorem dX12_readOne_37 : decode cX12_readOne 37 = .ok (.goto 18, 3) := by decide +kernel
theorem dX12_readOne_40 : decode cX12_readOne 40 = .ok (.aload_n 0, 1) := by decide +kernel
theorem dX12_readOne_41 : decode cX12_readOne 41 = .ok (.bipush 15, 2) := by decide +kernel
theorem dX12_readOne_43 : decode cX12_readOne 43 = .ok (.invokevirtual 172, 3) := by decide +kernel
theorem dX12_readOne_46 : decode cX12_readOne 46 = .ok (.ifCond .eq 8, 3) := by decide +kernel
theorem dX12_readOne_49 : decode cX12_readOne 49 = .ok (.bipush 6, 2) := by decide +kernel
theorem dX12_readOne_51 : decode cX12_readOne 51 = .ok (.goto 4, 3) := by decide +kernel
theorem dX12_readOne_54 : decode cX12_readOne 54 = .ok (.iconst 0, 1) := by decide +kernel
theorem dX12_readOne_55 : decode cX12_readOne 55 = .ok (.istore_n 3, 1) := by decide +kernel
theorem dX12_readOne_56 : decode cX12_readOne 56 = .ok (.bipush 16, 2) := by decide +kernel
theorem dX12_readOne_58 : decode cX12_readOne 58 = .ok (.istore 4, 2) := by decide +kernel
theorem dX12_readOne_60 : decode cX12_readOne 60 = .ok (.iload 4, 2) := by decide +kernel
theorem dX12_readOne_62 : decode cX12_readOne 62 = .ok (.bipush 21, 2) := by decide +kernel
theorem dX12_readOne_64 : decode cX12_readOne 64 = .ok (.if_icmp .gt 18, 3) := by decide +kernel
theorem dX12_readOne_67 : decode cX12_readOne 67 = .ok (.aload_n 0, 1) := by decide +kernel
theorem dX12_readOne_68 : decode cX12_readOne 68 = .ok (.iload 4, 2) := by decide +kernel
theorem dX12_readOne_70 : decode cX12_readOne 70 = .ok (.invokevirtual 172, 3) := by decide +kernel
theorem dX12_readOne_73 : decode cX12_readOne 73 = .ok (.ifCond .ne 9, 3) := by decide +kernel
theorem dX12_readOne_76 : decode cX12_readOne 76 = .ok (.iinc 4 1, 3) := by decide +kernel
theorem dX12_readOne_79 : decode cX12_readOne 79 = .ok (.goto (-19), 3) := by decide +kernel
theorem dX12_readOne_82 : decode cX12_readOne 82 = .ok (.iload_n 1, 1) := by decide +kernel
theorem dX12_readOne_83 : decode cX12_readOne 83 = .ok (.ifCond .ne 24, 3) := by decide +kernel
theorem dX12_readOne_86 : decode cX12_readOne 86 = .ok (.iload_n 2, 1) := by decide +kernel
theorem dX12_readOne_87 : decode cX12_readOne 87 = .ok (.ifCond .ne 20, 3) := by decide +kernel
theorem dX12_readOne_90 : decode cX12_readOne 90 = .ok (.iload_n 3, 1) := by decide +kernel
theorem dX12_readOne_91 : decode cX12_readOne 91 = .ok (.ifCond .ne 16, 3) := by decide +kernel
theorem dX12_readOne_94 : decode cX12_readOne 94 = .ok (.iload 4, 2) := by decide +kernel
theorem dX12_readOne_96 : decode cX12_readOne 96 = .ok (.bipush 21, 2) := by decide +kernel
theorem dX12_readOne_98 : decode cX12_readOne 98 = .ok (.if_icmp .le 9, 3) := by decide +kernel
theorem dX12_readOne_101 : decode cX12_readOne 101 = .ok (.aload_n 0, 1) := by decide +kernel
theorem dX12_readOne_102 : decode cX12_readOne 102 = .ok (.iconst 1, 1) := by decide +kernel
theorem dX12_readOne_103 : decode cX12_readOne 103 = .ok (.invokevirtual 152, 3) := by decide +kernel
theorem dX12_readOne_106 : decode cX12_readOne 106 = .ok (.ireturn, 1) := by decide +kernel
theorem dX12_readOne_107 : decode cX12_readOne 107 = .ok (.aload_n 0, 1) := by decide +kernel
theorem dX12_readOne_108 : decode cX12_readOne 108 = .ok (.getfield 378, 3) := by decide +kernel
theorem dX12_readOne_111 : decode cX12_readOne 111 = .ok (.bipush 20, 2) := by decide +kernel
theorem dX12_readOne_113 : decode cX12_readOne 113 = .ok (.if_icmp .eq 12, 3) := by decide +kernel
theorem dX12_readOne_116 : decode cX12_readOne 116 = .ok (.aload_n 0, 1) := by decide +kernel
theorem dX12_readOne_117 : decode cX12_readOne 117 = .ok (.getfield 381, 3) := by decide +kernel
theorem dX12_readOne_120 : decode cX12_readOne 120 = .ok (.bipush 8, 2) := by decide +kernel
theorem dX12_readOne_122 : decode cX12_readOne 122 = .ok (.if_icmp .ne 9, 3) := by decide +kernel
theorem dX12_readOne_125 : decode cX12_readOne 125 = .ok (.aload_n 0, 1) := by decide +kernel
theorem dX12_readOne_126 : decode cX12_readOne 126 = .ok (.iconst 4, 1) := by decide +kernel
theorem dX12_readOne_127 : decode cX12_readOne 127 = .ok (.invokevirtual 152, 3) := by decide +kernel
theorem dX12_readOne_130 : decode cX12_readOne 130 = .ok (.ireturn, 1) := by decide +kernel
theorem dX12_readOne_131 : decode cX12_readOne 131 = .ok (.aload_n 0, 1) := by decide +kernel
theorem dX12_readOne_132 : decode cX12_readOne 132 = .ok (.dup, 1) := by decide +kernel
theorem dX12_readOne_133 : decode cX12_readOne 133 = .ok (.getfield 378, 3) := by decide +kernel
theorem dX12_readOne_136 : decode cX12_readOne 136 = .ok (.iconst 1, 1) := by decide +kernel
theorem dX12_readOne_137 : decode cX12_readOne 137 = .ok (.iadd, 1) := by decide +kernel
theorem dX12_readOne_138 : decode cX12_readOne 138 = .ok (.putfield 378, 3) := by decide +kernel
theorem dX12_readOne_141 : decode cX12_readOne 141 = .ok (.aload_n 0, 1) := by decide +kernel
theorem dX12_readOne_142 : decode cX12_readOne 142 = .ok (.dup, 1) := by decide +kernel
theorem dX12_readOne_143 : decode cX12_readOne 143 = .ok (.getfield 381, 3) := by decide +kernel
theorem dX12_readOne_146 : decode cX12_readOne 146 = .ok (.iconst 1, 1) := by decide +kernel
theorem dX12_readOne_147 : decode cX12_readOne 147 = .ok (.iadd, 1) := by decide +kernel
theorem dX12_readOne_148 : decode cX12_readOne 148 = .ok (.putfield 381, 3) := by decide +kernel
theorem dX12_readOne_151 : decode cX12_readOne 151 = .ok (.aload_n 0, 1) := by decide +kernel
theorem dX12_readOne_152 : decode cX12_readOne 152 = .ok (.invokevirtual 162, 3) := by decide +kernel
theorem dX12_readOne_155 : decode cX12_readOne 155 = .ok (.iconst 1, 1) := by decide +kernel
theorem dX12_readOne_156 : decode cX12_readOne 156 = .ok (.istore 5, 2) := by decide +kernel
theorem dX12_readOne_158 : decode cX12_readOne 158 = .ok (.iload_n 1, 1) := by decide +kernel
theorem dX12_readOne_159 : decode cX12_readOne 159 = .ok (.ifCond .eq 12, 3) := by decide +kernel
theorem dX12_readOne_162 : decode cX12_readOne 162 = .ok (.aload_n 0, 1) := by decide +kernel
theorem dX12_readOne_163 : decode cX12_readOne 163 = .ok (.invokevirtual 384, 3) := by decide +kernel
theorem dX12_readOne_166 : decode cX12_readOne 166 = .ok (.istore 5, 2) := by decide +kernel
theorem dX12_readOne_168 : decode cX12_readOne 168 = .ok (.goto 43, 3) := by decide +kernel
theorem dX12_readOne_171 : decode cX12_readOne 171 = .ok (.iload_n 2, 1) := by decide +kernel
theorem dX12_readOne_172 : decode cX12_readOne 172 = .ok (.ifCond .eq 12, 3) := by decide +kernel
theorem dX12_readOne_175 : decode cX12_readOne 175 = .ok (.aload_n 0, 1) := by decide +kernel
theorem dX12_readOne_176 : decode cX12_readOne 176 = .ok (.invokevirtual 387, 3) := by decide +kernel
theorem dX12_readOne_179 : decode cX12_readOne 179 = .ok (.istore 5, 2) := by decide +kernel
theorem dX12_readOne_181 : decode cX12_readOne 181 = .ok (.goto 30, 3) := by decide +kernel
theorem dX12_readOne_184 : decode cX12_readOne 184 = .ok (.iload_n 3, 1) := by decide +kernel
theorem dX12_readOne_185 : decode cX12_readOne 185 = .ok (.ifCond .eq 18, 3) := by decide +kernel
theorem dX12_readOne_188 : decode cX12_readOne 188 = .ok (.aload_n 0, 1) := by decide +kernel
theorem dX12_readOne_189 : decode cX12_readOne 189 = .ok (.aload_n 0, 1) := by decide +kernel
theorem dX12_readOne_190 : decode cX12_readOne 190 = .ok (.iload_n 3, 1) := by decide +kernel
theorem dX12_readOne_191 : decode cX12_readOne 191 = .ok (.iconst 0, 1) := by decide +kernel
theorem dX12_readOne_192 : decode cX12_readOne 192 = .ok (.iconst 0, 1) := by decide +kernel
theorem dX12_readOne_193 : decode cX12_readOne 193 = .ok (.iconst 0, 1) := by decide +kernel
theorem dX12_readOne_194 : decode cX12_readOne 194 = .ok (.invokevirtual 371, 3) := by decide +kernel
theorem dX12_readOne_197 : decode cX12_readOne 197 = .ok (.putfield 368, 3) := by decide +kernel
theorem dX12_readOne_200 : decode cX12_readOne 200 = .ok (.goto 11, 3) := by decide +kernel
theorem dX12_readOne_203 : decode cX12_readOne 203 = .ok (.aload_n 0, 1) := by decide +kernel
theorem dX12_readOne_204 : decode cX12_readOne 204 = .ok (.iload 4, 2) := by decide +kernel
theorem dX12_readOne_206 : decode cX12_readOne 206 = .ok (.invokevirtual 390, 3) := by decide +kernel
theorem dX12_readOne_209 : decode cX12_readOne 209 = .ok (.istore 5, 2) := by decide +kernel
theorem dX12_readOne_211 : decode cX12_readOne 211 = .ok (.aload_n 0, 1) := by decide +kernel
theorem dX12_readOne_212 : decode cX12_readOne 212 = .ok (.dup, 1) := by decide +kernel
theorem dX12_readOne_213 : decode cX12_readOne 213 = .ok (.getfield 381, 3) := by decide +kernel
theorem dX12_readOne_216 : decode cX12_readOne 216 = .ok (.iconst 1, 1) := by decide +kernel
theorem dX12_readOne_217 : decode cX12_readOne 217 = .ok (.isub, 1) := by decide +kernel
theorem dX12_readOne_218 : decode cX12_readOne 218 = .ok (.putfield 381, 3) := by decide +kernel
theorem dX12_readOne_221 : decode cX12_readOne 221 = .ok (.iload 5, 2) := by decide +kernel
theorem dX12_readOne_223 : decode cX12_readOne 223 = .ok (.ireturn, 1) := by decide +kernel
def fX12_readOne_L60 (s0 : sg_M) (k82 : Int → Prop) : Nat → Int → Prop
  | 0, _ => False
  | n_60 + 1, x4_60 => ((21 < x4_60 → k82 x4_60) ∧ (¬ (21 < x4_60) → fX12_isWord s0 x4_60 (fun u8 => ((u8 ≠ 0 → k82 x4_60) ∧ (u8 = 0 → sg_R (x4_60 + 1) ∧ (fX12_readOne_L60 s0 k82 n_60) (x4_60 + 1))))))
def fX12_readOne_j107 (s0 : sg_M) (rc : Nat → sg_M → (Int → sg_M → Prop) → Prop) (u1 : Int) (u3 : Int) (y0_55 : Int) (x4_82e60 : Int) (Q : Int → sg_M → Prop)  : Prop := (((s0 64 59) = 20 → fX12_bad s0 4 (fun u15 s17 => Q u15 s17)) ∧ (¬ ((s0 64 59) = 20) → (((s0 64 60) ≠ 8 → sg_R ((s0 64 59) + 1) ∧ ∀ s22 : sg_M, s22 = sg_up s0 64 59 ((s0 64 59) + 1) → sg_R ((s22 64 60) + 1) ∧ ∀ s26 : sg_M, s26 = sg_up s22 64 60 ((s22 64 60) + 1) → fX12_go s26 (fun s28 => ((u1 = 0 → ((u3 = 0 → ((y0_55 = 0 → fX12_readCompare s28 x4_82e60 (fun u32 s34 => sg_R ((s34 64 60) - 1) ∧ ∀ s37 : sg_M, s37 = sg_up s34 64 60 ((s34 64 60) - 1) → Q u32 s37)) ∧ (¬ (y0_55 = 0) → fX12_lays s28 y0_55 0 0 0 (fun u39 s41 => ∀ s42 : sg_M, s42 = sg_up s41 64 61 u39 → sg_R ((s42 64 60) - 1) ∧ ∀ s46 : sg_M, s46 = sg_up s42 64 60 ((s42 64 60) - 1) → Q 1 s46)))) ∧ (¬ (u3 = 0) → rc 3 s28 (fun u48 s50 => sg_R ((s50 64 60) - 1) ∧ ∀ s53 : sg_M, s53 = sg_up s50 64 60 ((s50 64 60) - 1) → Q u48 s53)))) ∧ (¬ (u1 = 0) → rc 4 s28 (fun u55 s57 => sg_R ((s57 64 60) - 1) ∧ ∀ s60 : sg_M, s60 = sg_up s57 64 60 ((s57 64 60) - 1) → Q u55 s60))))) ∧ ((s0 64 60) = 8 → fX12_bad s0 4 (fun u62 s64 => Q u62 s64)))))
def fX12_readOne_j55 (s0 : sg_M) (rc : Nat → sg_M → (Int → sg_M → Prop) → Prop) (u1 : Int) (u3 : Int) (Q : Int → sg_M → Prop) (y0_55 : Int) : Prop := (∃ n12 : Nat, fX12_readOne_L60 s0 (fun x4_82e60 => ((u1 ≠ 0 → (fX12_readOne_j107 s0 rc u1 u3 y0_55 x4_82e60 Q)) ∧ (u1 = 0 → ((u3 ≠ 0 → (fX12_readOne_j107 s0 rc u1 u3 y0_55 x4_82e60 Q)) ∧ (u3 = 0 → ((y0_55 ≠ 0 → (fX12_readOne_j107 s0 rc u1 u3 y0_55 x4_82e60 Q)) ∧ (y0_55 = 0 → ((x4_82e60 ≤ 21 → (fX12_readOne_j107 s0 rc u1 u3 y0_55 x4_82e60 Q)) ∧ (¬ (x4_82e60 ≤ 21) → fX12_bad s0 1 (fun u69 s71 => Q u69 s71)))))))))) n12 16)
def fX12_readOne_b (rc : Nat → sg_M → (Int → sg_M → Prop) → Prop) (s0 : sg_M) (Q : Int → sg_M → Prop) : Prop := fX12_isSign s0 40 (fun u1 => fX12_isWord s0 12 (fun u3 => fX12_isWord s0 13 (fun u5 => ((u5 = 0 → fX12_isWord s0 14 (fun u73 => ((u73 = 0 → fX12_isWord s0 15 (fun u76 => ((u76 = 0 → (fX12_readOne_j55 s0 rc u1 u3 Q) 0) ∧ (¬ (u76 = 0) → (fX12_readOne_j55 s0 rc u1 u3 Q) 6)))) ∧ (¬ (u73 = 0) → (fX12_readOne_j55 s0 rc u1 u3 Q) 5)))) ∧ (¬ (u5 = 0) → (fX12_readOne_j55 s0 rc u1 u3 Q) 4)))))
set_option maxHeartbeats 4000000 in
set_option maxRecDepth 100000 in
theorem CX12_readOne_b {l : Launch} {G : sg_G} {La : sg_L} {s0 : sg_M} (hst : sg_St La) {Q : Int → sg_M → Prop} {d : Nat} (hd : 4 ≤ d) {rc : Nat → sg_M → (Int → sg_M → Prop) → Prop} (ih0 : ∀ {s0 : sg_M}  {Q : Int → sg_M → Prop}, rc 0 s0 Q → sg_C l G yX12_readOr cX12_readOr 2 (some .boolean) d 0 0 La s0 [sg_r 64] (sg_HZ La Q)) (ih1 : ∀ {s0 : sg_M}  {Q : Int → sg_M → Prop}, rc 1 s0 Q → sg_C l G yX12_readAnd cX12_readAnd 2 (some .boolean) d 0 0 La s0 [sg_r 64] (sg_HZ La Q)) (ih2 : ∀ {s0 : sg_M}  {Q : Int → sg_M → Prop}, rc 2 s0 Q → sg_C l G yX12_readOne cX12_readOne 6 (some .boolean) d 0 0 La s0 [sg_r 64] (sg_HZ La Q)) (ih3 : ∀ {s0 : sg_M}  {Q : Int → sg_M → Prop}, rc 3 s0 Q → sg_C l G yX12_readNot cX12_readNot 1 (some .boolean) d 0 0 La s0 [sg_r 64] (sg_HZ La Q)) (ih4 : ∀ {s0 : sg_M}  {Q : Int → sg_M → Prop}, rc 4 s0 Q → sg_C l G yX12_readBracket cX12_readBracket 1 (some .boolean) d 0 0 La s0 [sg_r 64] (sg_HZ La Q)) (hf : fX12_readOne_b rc s0 Q) : sg_C l G yX12_readOne cX12_readOne 6 (some .boolean) (d + 1) 0 0 La s0 [sg_r 64] (sg_HZ La Q) := by
  refine sg_body (by decide +kernel) (Nat.le_of_ble_eq_true rfl) ?_
  intro p e s m args below meth c F hnm
  unfold fX12_readOne_b at hf
  show sg_W p l e (sg_rm (d + 1) 0 0) s m args below meth c (MQ below (sg_Q (some .boolean) G La s.heap.size (sg_HZ La Q)) args s 0 0 (sg_A La s.heap.size)) 6 G (sg_A La s.heap.size) La s0 0 0 0 [(0, sg_r 64)] []
  refine gw_aload_n F 0 rfl rfl (by decide) dX12_readOne_0 ?_
  refine gw_bipush F rfl dX12_readOne_1 ?_
  refine gk_PZ F (gc_V F (S := []) (As := [sg_i 40]) (T := TX12) (N := 62) (CX12_isSign hst (by decide) hf) (so_64 hst) (by decide) rfl kw_1090 kw_103 kw_1088 kw_1089 kw_50 hcX12_isSign ⟨by simp only [sg_rm]; omega, by simp only [sg_rm]; omega⟩ rfl rfl (Nat.le_of_ble_eq_true rfl) ⟨by simp only [sg_rm]; omega, by simp only [sg_rm]; omega⟩ dX12_readOne_3) (fun u1 h2 hf => ?_)
  refine gw_istore_n F rfl (by decide) rfl dX12_readOne_6 ?_
  refine gw_aload_n F 1 rfl rfl (by decide) dX12_readOne_7 ?_
  refine gw_bipush F rfl dX12_readOne_8 ?_
  refine gk_PZ F (gc_V F (S := []) (As := [sg_i 12]) (T := TX12) (N := 62) (CX12_isWord hst (by decide) hf) (so_64 hst) (by decide) rfl kw_1066 kw_103 kw_1064 kw_1065 kw_46 hcX12_isWord ⟨by simp only [sg_rm]; omega, by simp only [sg_rm]; omega⟩ rfl rfl (Nat.le_of_ble_eq_true rfl) ⟨by simp only [sg_rm]; omega, by simp only [sg_rm]; omega⟩ dX12_readOne_10) (fun u3 h4 hf => ?_)
  refine gw_istore_n F rfl (by decide) rfl dX12_readOne_13 ?_
  refine gw_aload_n F 2 rfl rfl (by decide) dX12_readOne_14 ?_
  refine gw_bipush F rfl dX12_readOne_15 ?_
  refine gk_PZ F (gc_V F (S := []) (As := [sg_i 13]) (T := TX12) (N := 62) (CX12_isWord hst (by decide) hf) (so_64 hst) (by decide) rfl kw_1066 kw_103 kw_1064 kw_1065 kw_46 hcX12_isWord ⟨by simp only [sg_rm]; omega, by simp only [sg_rm]; omega⟩ rfl rfl (Nat.le_of_ble_eq_true rfl) ⟨by simp only [sg_rm]; omega, by simp only [sg_rm]; omega⟩ dX12_readOne_17) (fun u5 h6 hf => ?_)
  have J55 : ∀ (y0_55 : Int), sg_R y0_55 → (fX12_readOne_j55 s0 rc u1 u3 Q) y0_55 → sg_W p l e (sg_rm (d + 1) 0 0) s m args below meth c (MQ below (sg_Q (some .boolean) G La s.heap.size (sg_HZ La Q)) args s 0 0 (sg_A La s.heap.size)) 6 G (sg_A La s.heap.size) La s0 0 0 55 [(0, sg_r 64), (1, sg_i u1), (2, sg_i u3)] [sg_i y0_55] := by
    intro y0_55 ry0_55 hf
    unfold fX12_readOne_j55 at hf
    refine gw_istore_n F rfl (by decide) rfl dX12_readOne_55 ?_
    refine gw_bipush F rfl dX12_readOne_56 ?_
    refine gw_istore F (by decide) rfl dX12_readOne_58 ?_
    have L60 : ∀ (k82 : Int → Prop) (hk82 : ∀ (x4_82e60 : Int), sg_R x4_82e60 → k82 x4_82e60 → sg_W p l e (sg_rm (d + 1) 0 0) s m args below meth c (MQ below (sg_Q (some .boolean) G La s.heap.size (sg_HZ La Q)) args s 0 0 (sg_A La s.heap.size)) 6 G (sg_A La s.heap.size) La s0 0 0 82 [(0, sg_r 64), (1, sg_i u1), (2, sg_i u3), (3, sg_i y0_55), (4, sg_i x4_82e60)] []), ∀ n_60 : Nat, ∀ (x4_60 : Int), sg_R x4_60 → fX12_readOne_L60 s0 k82 n_60 x4_60 → sg_W p l e (sg_rm (d + 1) 0 0) s m args below meth c (MQ below (sg_Q (some .boolean) G La s.heap.size (sg_HZ La Q)) args s 0 0 (sg_A La s.heap.size)) 6 G (sg_A La s.heap.size) La s0 0 0 60 [(0, sg_r 64), (1, sg_i u1), (2, sg_i u3), (3, sg_i y0_55), (4, sg_i x4_60)] [] := by
      intro k82 hk82 n_60
      induction n_60 with
      | zero => intro x4_60 r4_60 hf; exact hf.elim
      | succ n_60 ih =>
        intro x4_60 r4_60 hf
        unfold fX12_readOne_L60 at hf
        refine gw_iload F 4 rfl dX12_readOne_60 ?_
        refine gw_bipush F rfl dX12_readOne_62 ?_
        refine gw_icmp_gt F (tgt := 82) dX12_readOne_64 (by decide) r4_60 (by decide) (fun c7 => ?_) (fun c7 => ?_)
        · have hf := hf.1 c7
          refine gw_sub [0, 1, 2, 3, 4] rfl ?_
          exact hk82 x4_60 r4_60 hf
        · have hf := hf.2 c7
          refine gw_aload_n F 0 rfl rfl (by decide) dX12_readOne_67 ?_
          refine gw_iload F 4 rfl dX12_readOne_68 ?_
          refine gk_PZ F (gc_V F (S := []) (As := [sg_i x4_60]) (T := TX12) (N := 62) (CX12_isWord hst r4_60 hf) (so_64 hst) (by decide) rfl kw_1066 kw_103 kw_1064 kw_1065 kw_46 hcX12_isWord ⟨by simp only [sg_rm]; omega, by simp only [sg_rm]; omega⟩ rfl rfl (Nat.le_of_ble_eq_true rfl) ⟨by simp only [sg_rm]; omega, by simp only [sg_rm]; omega⟩ dX12_readOne_70) (fun u8 h9 hf => ?_)
          refine gw_if_ne F (tgt := 82) dX12_readOne_73 (by decide) (sg_B_R h9) (fun c10 => ?_) (fun c10 => ?_)
          · have hf := hf.1 c10
            refine gw_sub [0, 1, 2, 3, 4] rfl ?_
            exact hk82 x4_60 r4_60 hf
          · have hf := hf.2 c10
            refine gw_iinc F (z := (x4_60 + 1)) 4 rfl (by omega) (by decide) rfl dX12_readOne_76 ?_
            refine gw_goto F (tgt := 60) dX12_readOne_79 (by decide) ?_
            obtain ⟨g11, hf⟩ := hf
            refine gw_sub [1, 2, 3, 4, 0] rfl ?_
            exact ih (x4_60 + 1) g11 hf
    obtain ⟨n12, hf⟩ := hf
    refine gw_sub [2, 3, 4, 1, 0] rfl ?_
    refine L60 _ (fun x4_82e60 r4_82e60 hf => ?_) n12 16 (by decide) hf
    refine gw_iload_n F 1 rfl rfl dX12_readOne_82 ?_
    have J107 : (fX12_readOne_j107 s0 rc u1 u3 y0_55 x4_82e60 Q) → sg_W p l e (sg_rm (d + 1) 0 0) s m args below meth c (MQ below (sg_Q (some .boolean) G La s.heap.size (sg_HZ La Q)) args s 0 0 (sg_A La s.heap.size)) 6 G (sg_A La s.heap.size) La s0 0 0 107 [(0, sg_r 64), (1, sg_i u1), (2, sg_i u3), (3, sg_i y0_55), (4, sg_i x4_82e60)] [] := by
      intro hf
      unfold fX12_readOne_j107 at hf
      refine gw_aload_n F 0 rfl rfl (by decide) dX12_readOne_107 ?_
      refine gw_get0 F (so_64 hst) (by decide) rfl sg_lay_RX12 (j := 59) (by decide) rfl (host := "") (.inl kw_1015) dX12_readOne_108 (fun h13 => ?_)
      refine gw_bipush F rfl dX12_readOne_111 ?_
      refine gw_icmp_eq F (tgt := 125) dX12_readOne_113 (by decide) h13 (by decide) (fun c14 => ?_) (fun c14 => ?_)
      · have hf := hf.1 c14
        refine gw_aload_n F 0 rfl rfl (by decide) dX12_readOne_125 ?_
        refine gw_iconst F dX12_readOne_126 ?_
        refine gk_HZ F (gc_V F (S := []) (As := [sg_i 4]) (T := TX12) (N := 62) (CX12_bad hst (by decide) hf) (so_64 hst) (by decide) rfl kw_1078 kw_103 kw_1076 kw_1077 kw_47 hcX12_bad ⟨by simp only [sg_rm]; omega, by simp only [sg_rm]; omega⟩ rfl rfl (Nat.le_of_ble_eq_true rfl) ⟨by simp only [sg_rm]; omega, by simp only [sg_rm]; omega⟩ dX12_readOne_127) (fun u15 s17 h16 hf => ?_)
        exact gr_HZ F h16 hf (by decide) (by decide) dX12_readOne_130
      · have hf := hf.2 c14
        refine gw_aload_n F 0 rfl rfl (by decide) dX12_readOne_116 ?_
        refine gw_get0 F (so_64 hst) (by decide) rfl sg_lay_RX12 (j := 60) (by decide) rfl (host := "") (.inl kw_1016) dX12_readOne_117 (fun h18 => ?_)
        refine gw_bipush F rfl dX12_readOne_120 ?_
        refine gw_icmp_ne F (tgt := 131) dX12_readOne_122 (by decide) h18 (by decide) (fun c19 => ?_) (fun c19 => ?_)
        · have hf := hf.1 c19
          refine gw_aload_n F 0 rfl rfl (by decide) dX12_readOne_131 ?_
          refine gw_dup F rfl dX12_readOne_132 ?_
          refine gw_get0 F (so_64 hst) (by decide) rfl sg_lay_RX12 (j := 59) (by decide) rfl (host := "") (.inl kw_1015) dX12_readOne_133 (fun h20 => ?_)
          refine gw_iconst F dX12_readOne_136 ?_
          refine gw_iadd F rfl dX12_readOne_137 ?_
          obtain ⟨g21, hf⟩ := hf
          obtain ⟨s22, e23⟩ : ∃ z : sg_M, z = sg_up s0 64 59 ((s0 64 59) + 1) := ⟨_, rfl⟩
          have hf := hf s22 e23
          refine gw_put0 F (so_64 hst) (by decide) rfl sg_lay_RX12 (j := 59) (by decide) g21 e23 tyX12_ok nmX12 rfl (tyX12_ok 59 (by decide)) rfl (host := "") (.inl kw_1015) dX12_readOne_138 ?_
          refine gw_aload_n F 0 rfl rfl (by decide) dX12_readOne_141 ?_
          refine gw_dup F rfl dX12_readOne_142 ?_
          refine gw_get0 F (so_64 hst) (by decide) rfl sg_lay_RX12 (j := 60) (by decide) rfl (host := "") (.inl kw_1016) dX12_readOne_143 (fun h24 => ?_)
          refine gw_iconst F dX12_readOne_146 ?_
          refine gw_iadd F rfl dX12_readOne_147 ?_
          obtain ⟨g25, hf⟩ := hf
          obtain ⟨s26, e27⟩ : ∃ z : sg_M, z = sg_up s22 64 60 ((s22 64 60) + 1) := ⟨_, rfl⟩
          have hf := hf s26 e27
          refine gw_put0 F (so_64 hst) (by decide) rfl sg_lay_RX12 (j := 60) (by decide) g25 e27 tyX12_ok nmX12 rfl (tyX12_ok 60 (by decide)) rfl (host := "") (.inl kw_1016) dX12_readOne_148 ?_
          refine gw_aload_n F 0 rfl rfl (by decide) dX12_readOne_151 ?_
          refine gk_HV F (gc_V F (S := []) (As := []) (T := TX12) (N := 62) (CX12_go hst hf) (so_64 hst) (by decide) rfl kw_1049 kw_103 kw_1047 kw_1048 kw_43 hcX12_go ⟨by simp only [sg_rm]; omega, by simp only [sg_rm]; omega⟩ rfl rfl (Nat.le_of_ble_eq_true rfl) ⟨by simp only [sg_rm]; omega, by simp only [sg_rm]; omega⟩ dX12_readOne_152) (fun s28 hf => ?_)
          refine gw_iconst F dX12_readOne_155 ?_
          refine gw_istore F (by decide) rfl dX12_readOne_156 ?_
          refine gw_iload_n F 2 rfl rfl dX12_readOne_158 ?_
          refine gw_if_eq F (tgt := 171) dX12_readOne_159 (by decide) (sg_B_R h2) (fun c29 => ?_) (fun c29 => ?_)
          · have hf := hf.1 c29
            refine gw_iload_n F 3 rfl rfl dX12_readOne_171 ?_
            refine gw_if_eq F (tgt := 184) dX12_readOne_172 (by decide) (sg_B_R h4) (fun c30 => ?_) (fun c30 => ?_)
            · have hf := hf.1 c30
              refine gw_iload_n F 4 rfl rfl dX12_readOne_184 ?_
              refine gw_if_eq F (tgt := 203) dX12_readOne_185 (by decide) ry0_55 (fun c31 => ?_) (fun c31 => ?_)
              · have hf := hf.1 c31
                refine gw_aload_n F 1 rfl rfl (by decide) dX12_readOne_203 ?_
                refine gw_iload F 5 rfl dX12_readOne_204 ?_
                refine gk_HZ F (gc_V F (S := []) (As := [sg_i x4_82e60]) (T := TX12) (N := 62) (CX12_readCompare hst r4_82e60 hf) (so_64 hst) (by decide) rfl kw_1328 kw_103 kw_1326 kw_1327 kw_86 hcX12_readCompare ⟨by simp only [sg_rm]; omega, by simp only [sg_rm]; omega⟩ rfl rfl (Nat.le_of_ble_eq_true rfl) ⟨by simp only [sg_rm]; omega, by simp only [sg_rm]; omega⟩ dX12_readOne_206) (fun u32 s34 h33 hf => ?_)
                refine gw_istore F (by decide) rfl dX12_readOne_209 ?_
                refine gw_aload_n F 1 rfl rfl (by decide) dX12_readOne_211 ?_
                refine gw_dup F rfl dX12_readOne_212 ?_
                refine gw_get0 F (so_64 hst) (by decide) rfl sg_lay_RX12 (j := 60) (by decide) rfl (host := "") (.inl kw_1016) dX12_readOne_213 (fun h35 => ?_)
                refine gw_iconst F dX12_readOne_216 ?_
                refine gw_isub F rfl dX12_readOne_217 ?_
                obtain ⟨g36, hf⟩ := hf
                obtain ⟨s37, e38⟩ : ∃ z : sg_M, z = sg_up s34 64 60 ((s34 64 60) - 1) := ⟨_, rfl⟩
                have hf := hf s37 e38
                refine gw_put0 F (so_64 hst) (by decide) rfl sg_lay_RX12 (j := 60) (by decide) g36 e38 tyX12_ok nmX12 rfl (tyX12_ok 60 (by decide)) rfl (host := "") (.inl kw_1016) dX12_readOne_218 ?_
                refine gw_iload F 0 rfl dX12_readOne_221 ?_
                exact gr_HZ F h33 hf (by decide) (by decide) dX12_readOne_223
              · have hf := hf.2 c31
                refine gw_aload_n F 1 rfl rfl (by decide) dX12_readOne_188 ?_
                refine gw_aload_n F 1 rfl rfl (by decide) dX12_readOne_189 ?_
                refine gw_iload_n F 4 rfl rfl dX12_readOne_190 ?_
                refine gw_iconst F dX12_readOne_191 ?_
                refine gw_iconst F dX12_readOne_192 ?_
                refine gw_iconst F dX12_readOne_193 ?_
                refine gk_HI F (gc_V F (S := [sg_r 64]) (As := [sg_i y0_55, sg_i 0, sg_i 0, sg_i 0]) (T := TX12) (N := 62) (CX12_lays hst ry0_55 (by decide) (by decide) (by decide) hf) (so_64 hst) (by decide) rfl kw_1325 kw_103 kw_1323 kw_1324 kw_85 hcX12_lays ⟨by simp only [sg_rm]; omega, by simp only [sg_rm]; omega⟩ rfl rfl (Nat.le_of_ble_eq_true rfl) ⟨by simp only [sg_rm]; omega, by simp only [sg_rm]; omega⟩ dX12_readOne_194) (fun u39 s41 h40 hf => ?_)
                obtain ⟨s42, e43⟩ : ∃ z : sg_M, z = sg_up s41 64 61 u39 := ⟨_, rfl⟩
                have hf := hf s42 e43
                refine gw_put0 F (so_64 hst) (by decide) rfl sg_lay_RX12 (j := 61) (by decide) h40 e43 tyX12_ok nmX12 rfl (tyX12_ok 61 (by decide)) rfl (host := "") (.inl kw_1017) dX12_readOne_197 ?_
                refine gw_goto F (tgt := 211) dX12_readOne_200 (by decide) ?_
                refine gw_aload_n F 1 rfl rfl (by decide) dX12_readOne_211 ?_
                refine gw_dup F rfl dX12_readOne_212 ?_
                refine gw_get0 F (so_64 hst) (by decide) rfl sg_lay_RX12 (j := 60) (by decide) rfl (host := "") (.inl kw_1016) dX12_readOne_213 (fun h44 => ?_)
                refine gw_iconst F dX12_readOne_216 ?_
                refine gw_isub F rfl dX12_readOne_217 ?_
                obtain ⟨g45, hf⟩ := hf
                obtain ⟨s46, e47⟩ : ∃ z : sg_M, z = sg_up s42 64 60 ((s42 64 60) - 1) := ⟨_, rfl⟩
                have hf := hf s46 e47
                refine gw_put0 F (so_64 hst) (by decide) rfl sg_lay_RX12 (j := 60) (by decide) g45 e47 tyX12_ok nmX12 rfl (tyX12_ok 60 (by decide)) rfl (host := "") (.inl kw_1016) dX12_readOne_218 ?_
                refine gw_iload F 0 rfl dX12_readOne_221 ?_
                exact gr_HZ F (by decide) hf (by decide) (by decide) dX12_readOne_223
            · have hf := hf.2 c30
              refine gw_aload_n F 1 rfl rfl (by decide) dX12_readOne_175 ?_
              refine gk_HZ F (gc_V F (S := []) (As := []) (T := TX12) (N := 62) (ih3  hf) (so_64 hst) (by decide) rfl kw_1322 kw_103 kw_1320 kw_1321 kw_84 hcX12_readNot ⟨by simp only [sg_rm]; omega, by simp only [sg_rm]; omega⟩ rfl rfl (Nat.le_of_ble_eq_true rfl) ⟨by simp only [sg_rm]; omega, by simp only [sg_rm]; omega⟩ dX12_readOne_176) (fun u48 s50 h49 hf => ?_)
              refine gw_istore F (by decide) rfl dX12_readOne_179 ?_
              refine gw_goto F (tgt := 211) dX12_readOne_181 (by decide) ?_
              refine gw_aload_n F 1 rfl rfl (by decide) dX12_readOne_211 ?_
              refine gw_dup F rfl dX12_readOne_212 ?_
              refine gw_get0 F (so_64 hst) (by decide) rfl sg_lay_RX12 (j := 60) (by decide) rfl (host := "") (.inl kw_1016) dX12_readOne_213 (fun h51 => ?_)
              refine gw_iconst F dX12_readOne_216 ?_
              refine gw_isub F rfl dX12_readOne_217 ?_
              obtain ⟨g52, hf⟩ := hf
              obtain ⟨s53, e54⟩ : ∃ z : sg_M, z = sg_up s50 64 60 ((s50 64 60) - 1) := ⟨_, rfl⟩
              have hf := hf s53 e54
              refine gw_put0 F (so_64 hst) (by decide) rfl sg_lay_RX12 (j := 60) (by decide) g52 e54 tyX12_ok nmX12 rfl (tyX12_ok 60 (by decide)) rfl (host := "") (.inl kw_1016) dX12_readOne_218 ?_
              refine gw_iload F 0 rfl dX12_readOne_221 ?_
              exact gr_HZ F h49 hf (by decide) (by decide) dX12_readOne_223
          · have hf := hf.2 c29
            refine gw_aload_n F 1 rfl rfl (by decide) dX12_readOne_162 ?_
            refine gk_HZ F (gc_V F (S := []) (As := []) (T := TX12) (N := 62) (ih4  hf) (so_64 hst) (by decide) rfl kw_1319 kw_103 kw_1317 kw_1318 kw_83 hcX12_readBracket ⟨by simp only [sg_rm]; omega, by simp only [sg_rm]; omega⟩ rfl rfl (Nat.le_of_ble_eq_true rfl) ⟨by simp only [sg_rm]; omega, by simp only [sg_rm]; omega⟩ dX12_readOne_163) (fun u55 s57 h56 hf => ?_)
            refine gw_istore F (by decide) rfl dX12_readOne_166 ?_
            refine gw_goto F (tgt := 211) dX12_readOne_168 (by decide) ?_
            refine gw_aload_n F 1 rfl rfl (by decide) dX12_readOne_211 ?_
            refine gw_dup F rfl dX12_readOne_212 ?_
            refine gw_get0 F (so_64 hst) (by decide) rfl sg_lay_RX12 (j := 60) (by decide) rfl (host := "") (.inl kw_1016) dX12_readOne_213 (fun h58 => ?_)
            refine gw_iconst F dX12_readOne_216 ?_
            refine gw_isub F rfl dX12_readOne_217 ?_
            obtain ⟨g59, hf⟩ := hf
            obtain ⟨s60, e61⟩ : ∃ z : sg_M, z = sg_up s57 64 60 ((s57 64 60) - 1) := ⟨_, rfl⟩
            have hf := hf s60 e61
            refine gw_put0 F (so_64 hst) (by decide) rfl sg_lay_RX12 (j := 60) (by decide) g59 e61 tyX12_ok nmX12 rfl (tyX12_ok 60 (by decide)) rfl (host := "") (.inl kw_1016) dX12_readOne_218 ?_
            refine gw_iload F 0 rfl dX12_readOne_221 ?_
            exact gr_HZ F h56 hf (by decide) (by decide) dX12_readOne_223
        · have hf := hf.2 c19
          refine gw_aload_n F 0 rfl rfl (by decide) dX12_readOne_125 ?_
          refine gw_iconst F dX12_readOne_126 ?_
          refine gk_HZ F (gc_V F (S := []) (As := [sg_i 4]) (T := TX12) (N := 62) (CX12_bad hst (by decide) hf) (so_64 hst) (by decide) rfl kw_1078 kw_103 kw_1076 kw_1077 kw_47 hcX12_bad ⟨by simp only [sg_rm]; omega, by simp only [sg_rm]; omega⟩ rfl rfl (Nat.le_of_ble_eq_true rfl) ⟨by simp only [sg_rm]; omega, by simp only [sg_rm]; omega⟩ dX12_readOne_127) (fun u62 s64 h63 hf => ?_)
          exact gr_HZ F h63 hf (by decide) (by decide) dX12_readOne_130
    refine gw_if_ne F (tgt := 107) dX12_readOne_83 (by decide) (sg_B_R h2) (fun c65 => ?_) (fun c65 => ?_)
    · have hf := hf.1 c65
      refine gw_sub [0, 1, 2, 3, 4] rfl ?_
      exact J107  hf
    · have hf := hf.2 c65
      refine gw_iload_n F 2 rfl rfl dX12_readOne_86 ?_
      refine gw_if_ne F (tgt := 107) dX12_readOne_87 (by decide) (sg_B_R h4) (fun c66 => ?_) (fun c66 => ?_)
      · have hf := hf.1 c66
        refine gw_sub [0, 1, 2, 3, 4] rfl ?_
        exact J107  hf
      · have hf := hf.2 c66
        refine gw_iload_n F 3 rfl rfl dX12_readOne_90 ?_
        refine gw_if_ne F (tgt := 107) dX12_readOne_91 (by decide) ry0_55 (fun c67 => ?_) (fun c67 => ?_)
        · have hf := hf.1 c67
          refine gw_sub [0, 1, 2, 3, 4] rfl ?_
          exact J107  hf
        · have hf := hf.2 c67
          refine gw_iload F 4 rfl dX12_readOne_94 ?_
          refine gw_bipush F rfl dX12_readOne_96 ?_
          refine gw_icmp_le F (tgt := 107) dX12_readOne_98 (by decide) r4_82e60 (by decide) (fun c68 => ?_) (fun c68 => ?_)
          · have hf := hf.1 c68
            refine gw_sub [0, 1, 2, 3, 4] rfl ?_
            exact J107  hf
          · have hf := hf.2 c68
            refine gw_aload_n F 0 rfl rfl (by decide) dX12_readOne_101 ?_
            refine gw_iconst F dX12_readOne_102 ?_
            refine gk_HZ F (gc_V F (S := []) (As := [sg_i 1]) (T := TX12) (N := 62) (CX12_bad hst (by decide) hf) (so_64 hst) (by decide) rfl kw_1078 kw_103 kw_1076 kw_1077 kw_47 hcX12_bad ⟨by simp only [sg_rm]; omega, by simp only [sg_rm]; omega⟩ rfl rfl (Nat.le_of_ble_eq_true rfl) ⟨by simp only [sg_rm]; omega, by simp only [sg_rm]; omega⟩ dX12_readOne_103) (fun u69 s71 h70 hf => ?_)
            exact gr_HZ F h70 hf (by decide) (by decide) dX12_readOne_106
  refine gw_if_eq F (tgt := 27) dX12_readOne_20 (by decide) (sg_B_R h6) (fun c72 => ?_) (fun c72 => ?_)
  · have hf := hf.1 c72
    refine gw_aload_n F 2 rfl rfl (by decide) dX12_readOne_27 ?_
    refine gw_bipush F rfl dX12_readOne_28 ?_
    refine gk_PZ F (gc_V F (S := []) (As := [sg_i 14]) (T := TX12) (N := 62) (CX12_isWord hst (by decide) hf) (so_64 hst) (by decide) rfl kw_1066 kw_103 kw_1064 kw_1065 kw_46 hcX12_isWord ⟨by simp only [sg_rm]; omega, by simp only [sg_rm]; omega⟩ rfl rfl (Nat.le_of_ble_eq_true rfl) ⟨by simp only [sg_rm]; omega, by simp only [sg_rm]; omega⟩ dX12_readOne_30) (fun u73 h74 hf => ?_)
    refine gw_if_eq F (tgt := 40) dX12_readOne_33 (by decide) (sg_B_R h74) (fun c75 => ?_) (fun c75 => ?_)
    · have hf := hf.1 c75
      refine gw_aload_n F 2 rfl rfl (by decide) dX12_readOne_40 ?_
      refine gw_bipush F rfl dX12_readOne_41 ?_
      refine gk_PZ F (gc_V F (S := []) (As := [sg_i 15]) (T := TX12) (N := 62) (CX12_isWord hst (by decide) hf) (so_64 hst) (by decide) rfl kw_1066 kw_103 kw_1064 kw_1065 kw_46 hcX12_isWord ⟨by simp only [sg_rm]; omega, by simp only [sg_rm]; omega⟩ rfl rfl (Nat.le_of_ble_eq_true rfl) ⟨by simp only [sg_rm]; omega, by simp only [sg_rm]; omega⟩ dX12_readOne_43) (fun u76 h77 hf => ?_)
      refine gw_if_eq F (tgt := 54) dX12_readOne_46 (by decide) (sg_B_R h77) (fun c78 => ?_) (fun c78 => ?_)
      · have hf := hf.1 c78
        refine gw_iconst F dX12_readOne_54 ?_
        refine gw_sub [2, 1, 0] rfl ?_
        exact J55 0 (by decide) hf
      · have hf := hf.2 c78
        refine gw_bipush F rfl dX12_readOne_49 ?_
        refine gw_goto F (tgt := 55) dX12_readOne_51 (by decide) ?_
        refine gw_sub [2, 1, 0] rfl ?_
        exact J55 6 (by decide) hf
    · have hf := hf.2 c75
      refine gw_iconst F dX12_readOne_36 ?_
      refine gw_goto F (tgt := 55) dX12_readOne_37 (by decide) ?_
      refine gw_sub [2, 1, 0] rfl ?_
      exact J55 5 (by decide) hf
  · have hf := hf.2 c72
    refine gw_iconst F dX12_readOne_23 ?_
    refine gw_goto F (tgt := 55) dX12_readOne_24 (by decide) ?_
    refine gw_sub [2, 1, 0] rfl ?_
    exact J55 4 (by decide) hf

theorem dX12_readNot_0 : decode cX12_readNot 0 = .ok (.aload_n 0, 1) := by decide +kernel
theorem dX12_readNot_1 : decode cX12_readNot 1 = .ok (.invokevirtual 375, 3) := by decide +kernel
theorem dX12_readNot_4 : decode cX12_readNot 4 = .ok (.ifCond .ne 5, 3) := by decide +kernel
theorem dX12_readNot_7 : decode cX12_readNot 7 = .ok (.iconst 0, 1) := by decide +kernel
theorem dX12_readNot_8 : decode cX12_readNot 8 = .ok (.ireturn, 1) := by decide +kernel
theorem dX12_readNot_9 : decode cX12_readNot 9 = .ok (.aload_n 0, 1) := by decide +kernel
theorem dX12_readNot_10 : decode cX12_readNot 10 = .ok (.aload_n 0, 1) := by decide +kernel
theorem dX12_readNot_11 : decode cX12_readNot 11 = .ok (.iconst 1, 1) := by decide +kernel
theorem dX12_readNot_12 : decode cX12_readNot 12 = .ok (.aload_n 0, 1) := by decide +kernel
theorem dX12_readNot_13 : decode cX12_readNot 13 = .ok (.getfield 368, 3) := by decide +kernel
theorem dX12_readNot_16 : decode cX12_readNot 16 = .ok (.iconst 0, 1) := by decide +kernel
theorem dX12_readNot_17 : decode cX12_readNot 17 = .ok (.iconst 0, 1) := by decide +kernel
theorem dX12_readNot_18 : decode cX12_readNot 18 = .ok (.invokevirtual 371, 3) := by decide +kernel
theorem dX12_readNot_21 : decode cX12_readNot 21 = .ok (.putfield 368, 3) := by decide +kernel
theorem dX12_readNot_24 : decode cX12_readNot 24 = .ok (.iconst 1, 1) := by decide +kernel
theorem dX12_readNot_25 : decode cX12_readNot 25 = .ok (.ireturn, 1) := by decide +kernel
def fX12_readNot_b (rc : Nat → sg_M → (Int → sg_M → Prop) → Prop) (s0 : sg_M) (Q : Int → sg_M → Prop) : Prop := rc 2 s0 (fun u1 s3 => ((u1 ≠ 0 → fX12_lays s3 1 (s3 64 61) 0 0 (fun u6 s8 => ∀ s9 : sg_M, s9 = sg_up s8 64 61 u6 → Q 1 s9)) ∧ (u1 = 0 → Q 0 s3)))
set_option maxHeartbeats 4000000 in
set_option maxRecDepth 100000 in
theorem CX12_readNot_b {l : Launch} {G : sg_G} {La : sg_L} {s0 : sg_M} (hst : sg_St La) {Q : Int → sg_M → Prop} {d : Nat} (hd : 4 ≤ d) {rc : Nat → sg_M → (Int → sg_M → Prop) → Prop} (ih0 : ∀ {s0 : sg_M}  {Q : Int → sg_M → Prop}, rc 0 s0 Q → sg_C l G yX12_readOr cX12_readOr 2 (some .boolean) d 0 0 La s0 [sg_r 64] (sg_HZ La Q)) (ih1 : ∀ {s0 : sg_M}  {Q : Int → sg_M → Prop}, rc 1 s0 Q → sg_C l G yX12_readAnd cX12_readAnd 2 (some .boolean) d 0 0 La s0 [sg_r 64] (sg_HZ La Q)) (ih2 : ∀ {s0 : sg_M}  {Q : Int → sg_M → Prop}, rc 2 s0 Q → sg_C l G yX12_readOne cX12_readOne 6 (some .boolean) d 0 0 La s0 [sg_r 64] (sg_HZ La Q)) (ih3 : ∀ {s0 : sg_M}  {Q : Int → sg_M → Prop}, rc 3 s0 Q → sg_C l G yX12_readNot cX12_readNot 1 (some .boolean) d 0 0 La s0 [sg_r 64] (sg_HZ La Q)) (ih4 : ∀ {s0 : sg_M}  {Q : Int → sg_M → Prop}, rc 4 s0 Q → sg_C l G yX12_readBracket cX12_readBracket 1 (some .boolean) d 0 0 La s0 [sg_r 64] (sg_HZ La Q)) (hf : fX12_readNot_b rc s0 Q) : sg_C l G yX12_readNot cX12_readNot 1 (some .boolean) (d + 1) 0 0 La s0 [sg_r 64] (sg_HZ La Q) := by
  refine sg_body (by decide +kernel) (Nat.le_of_ble_eq_true rfl) ?_
  intro p e s m args below meth c F hnm
  unfold fX12_readNot_b at hf
  show sg_W p l e (sg_rm (d + 1) 0 0) s m args below meth c (MQ below (sg_Q (some .boolean) G La s.heap.size (sg_HZ La Q)) args s 0 0 (sg_A La s.heap.size)) 1 G (sg_A La s.heap.size) La s0 0 0 0 [(0, sg_r 64)] []
  refine gw_aload_n F 0 rfl rfl (by decide) dX12_readNot_0 ?_
  refine gk_HZ F (gc_V F (S := []) (As := []) (T := TX12) (N := 62) (ih2  hf) (so_64 hst) (by decide) rfl kw_1316 kw_103 kw_1314 kw_1315 kw_82 hcX12_readOne ⟨by simp only [sg_rm]; omega, by simp only [sg_rm]; omega⟩ rfl rfl (Nat.le_of_ble_eq_true rfl) ⟨by simp only [sg_rm]; omega, by simp only [sg_rm]; omega⟩ dX12_readNot_1) (fun u1 s3 h2 hf => ?_)
  refine gw_if_ne F (tgt := 9) dX12_readNot_4 (by decide) (sg_B_R h2) (fun c4 => ?_) (fun c4 => ?_)
  · have hf := hf.1 c4
    refine gw_aload_n F 0 rfl rfl (by decide) dX12_readNot_9 ?_
    refine gw_aload_n F 0 rfl rfl (by decide) dX12_readNot_10 ?_
    refine gw_iconst F dX12_readNot_11 ?_
    refine gw_aload_n F 0 rfl rfl (by decide) dX12_readNot_12 ?_
    refine gw_get0 F (so_64 hst) (by decide) rfl sg_lay_RX12 (j := 61) (by decide) rfl (host := "") (.inl kw_1017) dX12_readNot_13 (fun h5 => ?_)
    refine gw_iconst F dX12_readNot_16 ?_
    refine gw_iconst F dX12_readNot_17 ?_
    refine gk_HI F (gc_V F (S := [sg_r 64]) (As := [sg_i 1, sg_i (s3 64 61), sg_i 0, sg_i 0]) (T := TX12) (N := 62) (CX12_lays hst (by decide) h5 (by decide) (by decide) hf) (so_64 hst) (by decide) rfl kw_1325 kw_103 kw_1323 kw_1324 kw_85 hcX12_lays ⟨by simp only [sg_rm]; omega, by simp only [sg_rm]; omega⟩ rfl rfl (Nat.le_of_ble_eq_true rfl) ⟨by simp only [sg_rm]; omega, by simp only [sg_rm]; omega⟩ dX12_readNot_18) (fun u6 s8 h7 hf => ?_)
    obtain ⟨s9, e10⟩ : ∃ z : sg_M, z = sg_up s8 64 61 u6 := ⟨_, rfl⟩
    have hf := hf s9 e10
    refine gw_put0 F (so_64 hst) (by decide) rfl sg_lay_RX12 (j := 61) (by decide) h7 e10 tyX12_ok nmX12 rfl (tyX12_ok 61 (by decide)) rfl (host := "") (.inl kw_1017) dX12_readNot_21 ?_
    refine gw_iconst F dX12_readNot_24 ?_
    exact gr_HZ F (by decide) hf (by decide) (by decide) dX12_readNot_25
  · have hf := hf.2 c4
    refine gw_iconst F dX12_readNot_7 ?_
    exact gr_HZ F (by decide) hf (by decide) (by decide) dX12_readNot_8

theorem dX12_readBracket_0 : decode cX12_readBracket 0 = .ok (.aload_n 0, 1) := by decide +kernel
theorem dX12_readBracket_1 : decode cX12_readBracket 1 = .ok (.invokevirtual 393, 3) := by decide +kernel
theorem dX12_readBracket_4 : decode cX12_readBracket 4 = .ok (.ifCond .ne 5, 3) := by decide +kernel
theorem dX12_readBracket_7 : decode cX12_readBracket 7 = .ok (.iconst 0, 1) := by decide +kernel
theorem dX12_readBracket_8 : decode cX12_readBracket 8 = .ok (.ireturn, 1) := by decide +kernel
theorem dX12_readBracket_9 : decode cX12_readBracket 9 = .ok (.aload_n 0, 1) := by decide +kernel
theorem dX12_readBracket_10 : decode cX12_readBracket 10 = .ok (.bipush 41, 2) := by decide +kernel
theorem dX12_readBracket_12 : decode cX12_readBracket 12 = .ok (.invokevirtual 165, 3) := by decide +kernel
theorem dX12_readBracket_15 : decode cX12_readBracket 15 = .ok (.ifCond .ne 9, 3) := by decide +kernel
theorem dX12_readBracket_18 : decode cX12_readBracket 18 = .ok (.aload_n 0, 1) := by decide +kernel
theorem dX12_readBracket_19 : decode cX12_readBracket 19 = .ok (.iconst 1, 1) := by decide +kernel
theorem dX12_readBracket_20 : decode cX12_readBracket 20 = .ok (.invokevirtual 152, 3) := by decide +kernel
theorem dX12_readBracket_23 : decode cX12_readBracket 23 = .ok (.ireturn, 1) := by decide +kernel
theorem dX12_readBracket_24 : decode cX12_readBracket 24 = .ok (.aload_n 0, 1) := by decide +kernel
theorem dX12_readBracket_25 : decode cX12_readBracket 25 = .ok (.invokevirtual 162, 3) := by decide +kernel
theorem dX12_readBracket_28 : decode cX12_readBracket 28 = .ok (.iconst 1, 1) := by decide +kernel
theorem dX12_readBracket_29 : decode cX12_readBracket 29 = .ok (.ireturn, 1) := by decide +kernel
def fX12_readBracket_b (rc : Nat → sg_M → (Int → sg_M → Prop) → Prop) (s0 : sg_M) (Q : Int → sg_M → Prop) : Prop := rc 0 s0 (fun u1 s3 => ((u1 ≠ 0 → fX12_isSign s3 41 (fun u5 => ((u5 ≠ 0 → fX12_go s3 (fun s8 => Q 1 s8)) ∧ (u5 = 0 → fX12_bad s3 1 (fun u9 s11 => Q u9 s11))))) ∧ (u1 = 0 → Q 0 s3)))
set_option maxHeartbeats 4000000 in
set_option maxRecDepth 100000 in
theorem CX12_readBracket_b {l : Launch} {G : sg_G} {La : sg_L} {s0 : sg_M} (hst : sg_St La) {Q : Int → sg_M → Prop} {d : Nat} (hd : 4 ≤ d) {rc : Nat → sg_M → (Int → sg_M → Prop) → Prop} (ih0 : ∀ {s0 : sg_M}  {Q : Int → sg_M → Prop}, rc 0 s0 Q → sg_C l G yX12_readOr cX12_readOr 2 (some .boolean) d 0 0 La s0 [sg_r 64] (sg_HZ La Q)) (ih1 : ∀ {s0 : sg_M}  {Q : Int → sg_M → Prop}, rc 1 s0 Q → sg_C l G yX12_readAnd cX12_readAnd 2 (some .boolean) d 0 0 La s0 [sg_r 64] (sg_HZ La Q)) (ih2 : ∀ {s0 : sg_M}  {Q : Int → sg_M → Prop}, rc 2 s0 Q → sg_C l G yX12_readOne cX12_readOne 6 (some .boolean) d 0 0 La s0 [sg_r 64] (sg_HZ La Q)) (ih3 : ∀ {s0 : sg_M}  {Q : Int → sg_M → Prop}, rc 3 s0 Q → sg_C l G yX12_readNot cX12_readNot 1 (some .boolean) d 0 0 La s0 [sg_r 64] (sg_HZ La Q)) (ih4 : ∀ {s0 : sg_M}  {Q : Int → sg_M → Prop}, rc 4 s0 Q → sg_C l G yX12_readBracket cX12_readBracket 1 (some .boolean) d 0 0 La s0 [sg_r 64] (sg_HZ La Q)) (hf : fX12_readBracket_b rc s0 Q) : sg_C l G yX12_readBracket cX12_readBracket 1 (some .boolean) (d + 1) 0 0 La s0 [sg_r 64] (sg_HZ La Q) := by
  refine sg_body (by decide +kernel) (Nat.le_of_ble_eq_true rfl) ?_
  intro p e s m args below meth c F hnm
  unfold fX12_readBracket_b at hf
  show sg_W p l e (sg_rm (d + 1) 0 0) s m args below meth c (MQ below (sg_Q (some .boolean) G La s.heap.size (sg_HZ La Q)) args s 0 0 (sg_A La s.heap.size)) 1 G (sg_A La s.heap.size) La s0 0 0 0 [(0, sg_r 64)] []
  refine gw_aload_n F 0 rfl rfl (by decide) dX12_readBracket_0 ?_
  refine gk_HZ F (gc_V F (S := []) (As := []) (T := TX12) (N := 62) (ih0  hf) (so_64 hst) (by decide) rfl kw_1310 kw_103 kw_1308 kw_1309 kw_80 hcX12_readOr ⟨by simp only [sg_rm]; omega, by simp only [sg_rm]; omega⟩ rfl rfl (Nat.le_of_ble_eq_true rfl) ⟨by simp only [sg_rm]; omega, by simp only [sg_rm]; omega⟩ dX12_readBracket_1) (fun u1 s3 h2 hf => ?_)
  refine gw_if_ne F (tgt := 9) dX12_readBracket_4 (by decide) (sg_B_R h2) (fun c4 => ?_) (fun c4 => ?_)
  · have hf := hf.1 c4
    refine gw_aload_n F 0 rfl rfl (by decide) dX12_readBracket_9 ?_
    refine gw_bipush F rfl dX12_readBracket_10 ?_
    refine gk_PZ F (gc_V F (S := []) (As := [sg_i 41]) (T := TX12) (N := 62) (CX12_isSign hst (by decide) hf) (so_64 hst) (by decide) rfl kw_1090 kw_103 kw_1088 kw_1089 kw_50 hcX12_isSign ⟨by simp only [sg_rm]; omega, by simp only [sg_rm]; omega⟩ rfl rfl (Nat.le_of_ble_eq_true rfl) ⟨by simp only [sg_rm]; omega, by simp only [sg_rm]; omega⟩ dX12_readBracket_12) (fun u5 h6 hf => ?_)
    refine gw_if_ne F (tgt := 24) dX12_readBracket_15 (by decide) (sg_B_R h6) (fun c7 => ?_) (fun c7 => ?_)
    · have hf := hf.1 c7
      refine gw_aload_n F 0 rfl rfl (by decide) dX12_readBracket_24 ?_
      refine gk_HV F (gc_V F (S := []) (As := []) (T := TX12) (N := 62) (CX12_go hst hf) (so_64 hst) (by decide) rfl kw_1049 kw_103 kw_1047 kw_1048 kw_43 hcX12_go ⟨by simp only [sg_rm]; omega, by simp only [sg_rm]; omega⟩ rfl rfl (Nat.le_of_ble_eq_true rfl) ⟨by simp only [sg_rm]; omega, by simp only [sg_rm]; omega⟩ dX12_readBracket_25) (fun s8 hf => ?_)
      refine gw_iconst F dX12_readBracket_28 ?_
      exact gr_HZ F (by decide) hf (by decide) (by decide) dX12_readBracket_29
    · have hf := hf.2 c7
      refine gw_aload_n F 0 rfl rfl (by decide) dX12_readBracket_18 ?_
      refine gw_iconst F dX12_readBracket_19 ?_
      refine gk_HZ F (gc_V F (S := []) (As := [sg_i 1]) (T := TX12) (N := 62) (CX12_bad hst (by decide) hf) (so_64 hst) (by decide) rfl kw_1078 kw_103 kw_1076 kw_1077 kw_47 hcX12_bad ⟨by simp only [sg_rm]; omega, by simp only [sg_rm]; omega⟩ rfl rfl (Nat.le_of_ble_eq_true rfl) ⟨by simp only [sg_rm]; omega, by simp only [sg_rm]; omega⟩ dX12_readBracket_20) (fun u9 s11 h10 hf => ?_)
      exact gr_HZ F h10 hf (by decide) (by decide) dX12_readBracket_23
  · have hf := hf.2 c4
    refine gw_iconst F dX12_readBracket_7 ?_
    exact gr_HZ F (by decide) hf (by decide) (by decide) dX12_readBracket_8

def g_mR : Nat → Nat → sg_M → (Int → sg_M → Prop) → Prop
  | 0, _, _, _ => False
  | n + 1, t, s0, Q => if t = 0 then fX12_readOr_b (g_mR n) s0 Q else if t = 1 then fX12_readAnd_b (g_mR n) s0 Q else if t = 2 then fX12_readOne_b (g_mR n) s0 Q else if t = 3 then fX12_readNot_b (g_mR n) s0 Q else fX12_readBracket_b (g_mR n) s0 Q
theorem G_mR {l : Launch} {G : sg_G} {La : sg_L} (hst : sg_St La) : ∀ n : Nat, (∀ {s0 : sg_M}  {Q : Int → sg_M → Prop}, g_mR n 0 s0 Q → sg_C l G yX12_readOr cX12_readOr 2 (some .boolean) (4 + n) 0 0 La s0 [sg_r 64] (sg_HZ La Q)) ∧ (∀ {s0 : sg_M}  {Q : Int → sg_M → Prop}, g_mR n 1 s0 Q → sg_C l G yX12_readAnd cX12_readAnd 2 (some .boolean) (4 + n) 0 0 La s0 [sg_r 64] (sg_HZ La Q)) ∧ (∀ {s0 : sg_M}  {Q : Int → sg_M → Prop}, g_mR n 2 s0 Q → sg_C l G yX12_readOne cX12_readOne 6 (some .boolean) (4 + n) 0 0 La s0 [sg_r 64] (sg_HZ La Q)) ∧ (∀ {s0 : sg_M}  {Q : Int → sg_M → Prop}, g_mR n 3 s0 Q → sg_C l G yX12_readNot cX12_readNot 1 (some .boolean) (4 + n) 0 0 La s0 [sg_r 64] (sg_HZ La Q)) ∧ (∀ {s0 : sg_M}  {Q : Int → sg_M → Prop}, g_mR n 4 s0 Q → sg_C l G yX12_readBracket cX12_readBracket 1 (some .boolean) (4 + n) 0 0 La s0 [sg_r 64] (sg_HZ La Q)) := by
  intro n
  induction n with
  | zero => exact ⟨(by intro s0  Q hf; exact (show False from hf).elim), (by intro s0  Q hf; exact (show False from hf).elim), (by intro s0  Q hf; exact (show False from hf).elim), (by intro s0  Q hf; exact (show False from hf).elim), (by intro s0  Q hf; exact (show False from hf).elim)⟩
  | succ n ih =>
    exact ⟨(by intro s0  Q hf; exact CX12_readOr_b (d := 4 + n) hst (Nat.le_add_right _ _) ih.1 ih.2.1 ih.2.2.1 ih.2.2.2.1 ih.2.2.2.2 hf), (by intro s0  Q hf; exact CX12_readAnd_b (d := 4 + n) hst (Nat.le_add_right _ _) ih.1 ih.2.1 ih.2.2.1 ih.2.2.2.1 ih.2.2.2.2 hf), (by intro s0  Q hf; exact CX12_readOne_b (d := 4 + n) hst (Nat.le_add_right _ _) ih.1 ih.2.1 ih.2.2.1 ih.2.2.2.1 ih.2.2.2.2 hf), (by intro s0  Q hf; exact CX12_readNot_b (d := 4 + n) hst (Nat.le_add_right _ _) ih.1 ih.2.1 ih.2.2.1 ih.2.2.2.1 ih.2.2.2.2 hf), (by intro s0  Q hf; exact CX12_readBracket_b (d := 4 + n) hst (Nat.le_add_right _ _) ih.1 ih.2.1 ih.2.2.1 ih.2.2.2.1 ih.2.2.2.2 hf)⟩

theorem dX12_said_0 : decode cX12_said 0 = .ok (.aload_n 0, 1) := by decide +kernel
theorem dX12_said_1 : decode cX12_said 1 = .ok (.iconst 0, 1) := by decide +kernel
theorem dX12_said_2 : decode cX12_said 2 = .ok (.putfield 84, 3) := by decide +kernel
theorem dX12_said_5 : decode cX12_said 5 = .ok (.aload_n 0, 1) := by decide +kernel
theorem dX12_said_6 : decode cX12_said 6 = .ok (.invokevirtual 175, 3) := by decide +kernel
theorem dX12_said_9 : decode cX12_said 9 = .ok (.aload_n 0, 1) := by decide +kernel
theorem dX12_said_10 : decode cX12_said 10 = .ok (.getfield 13, 3) := by decide +kernel
theorem dX12_said_13 : decode cX12_said 13 = .ok (.sipush 1790, 3) := by decide +kernel
theorem dX12_said_16 : decode cX12_said 16 = .ok (.iaload, 1) := by decide +kernel
theorem dX12_said_17 : decode cX12_said 17 = .ok (.ifCond .eq 8, 3) := by decide +kernel
theorem dX12_said_20 : decode cX12_said 20 = .ok (.iload_n 1, 1) := by decide +kernel
theorem dX12_said_21 : decode cX12_said 21 = .ok (.iconst (-1), 1) := by decide +kernel
theorem dX12_said_22 : decode cX12_said 22 = .ok (.if_icmp .ge 5, 3) := by decide +kernel
theorem dX12_said_25 : decode cX12_said 25 = .ok (.iconst (-1), 1) := by decide +kernel
theorem dX12_said_26 : decode cX12_said 26 = .ok (.ireturn, 1) := by decide +kernel
theorem dX12_said_27 : decode cX12_said 27 = .ok (.iconst 0, 1) := by decide +kernel
theorem dX12_said_28 : decode cX12_said 28 = .ok (.istore_n 2, 1) := by decide +kernel
theorem dX12_said_29 : decode cX12_said 29 = .ok (.iconst 1, 1) := by decide +kernel
theorem dX12_said_30 : decode cX12_said 30 = .ok (.istore_n 3, 1) := by decide +kernel
theorem dX12_said_31 : decode cX12_said 31 = .ok (.iload_n 3, 1) := by decide +kernel
theorem dX12_said_32 : decode cX12_said 32 = .ok (.aload_n 0, 1) := by decide +kernel
theorem dX12_said_33 : decode cX12_said 33 = .ok (.getfield 13, 3) := by decide +kernel
theorem dX12_said_36 : decode cX12_said 36 = .ok (.sipush 1300, 3) := by decide +kernel
theorem dX12_said_39 : decode cX12_said 39 = .ok (.iaload, 1) := by decide +kernel
theorem dX12_said_40 : decode cX12_said 40 = .ok (.if_icmp .gt 67, 3) := by decide +kernel
theorem dX12_said_43 : decode cX12_said 43 = .ok (.aload_n 0, 1) := by decide +kernel
theorem dX12_said_44 : decode cX12_said 44 = .ok (.aload_n 0, 1) := by decide +kernel
theorem dX12_said_45 : decode cX12_said 45 = .ok (.getfield 13, 3) := by decide +kernel
theorem dX12_said_48 : decode cX12_said 48 = .ok (.sipush 1301, 3) := by decide +kernel
theorem dX12_said_51 : decode cX12_said 51 = .ok (.iload_n 3, 1) := by decide +kernel
theorem dX12_said_52 : decode cX12_said 52 = .ok (.iadd, 1) := by decide +kernel
theorem dX12_said_53 : decode cX12_said 53 = .ok (.iconst 1, 1) := by decide +kernel
theorem dX12_said_54 : decode cX12_said 54 = .ok (.isub, 1) := by decide +kernel
theorem dX12_said_55 : decode cX12_said 55 = .ok (.iaload, 1) := by decide +kernel
theorem dX12_said_56 : decode cX12_said 56 = .ok (.aload_n 0, 1) := by decide +kernel
theorem dX12_said_57 : decode cX12_said 57 = .ok (.getfield 13, 3) := by decide +kernel
theorem dX12_said_60 : decode cX12_said 60 = .ok (.sipush 1501, 3) := by decide +kernel
theorem dX12_said_63 : decode cX12_said 63 = .ok (.iload_n 3, 1) := by decide +kernel
theorem dX12_said_64 : decode cX12_said 64 = .ok (.iadd, 1) := by decide +kernel
theorem dX12_said_65 : decode cX12_said 65 = .ok (.iconst 1, 1) := by decide +kernel
theorem dX12_said_66 : decode cX12_said 66 = .ok (.isub, 1) := by decide +kernel
theorem dX12_said_67 : decode cX12_said 67 = .ok (.iaload, 1) := by decide +kernel
theorem dX12_said_68 : decode cX12_said 68 = .ok (.invokevirtual 317, 3) := by decide +kernel
theorem dX12_said_71 : decode cX12_said 71 = .ok (.pop, 1) := by decide +kernel
theorem dX12_said_72 : decode cX12_said 72 = .ok (.aload_n 0, 1) := by decide +kernel
theorem dX12_said_73 : decode cX12_said 73 = .ok (.aload_n 0, 1) := by decide +kernel
theorem dX12_said_74 : decode cX12_said 74 = .ok (.getfield 13, 3) := by decide +kernel
theorem dX12_said_77 : decode cX12_said 77 = .ok (.sipush 1791, 3) := by decide +kernel
theorem dX12_said_80 : decode cX12_said 80 = .ok (.iaload, 1) := by decide +kernel
theorem dX12_said_81 : decode cX12_said 81 = .ok (.iload_n 3, 1) := by decide +kernel
theorem dX12_said_82 : decode cX12_said 82 = .ok (.invokevirtual 396, 3) := by decide +kernel
theorem dX12_said_85 : decode cX12_said 85 = .ok (.ifCond .ne 6, 3) := by decide +kernel
theorem dX12_said_88 : decode cX12_said 88 = .ok (.goto 13, 3) := by decide +kernel
theorem dX12_said_91 : decode cX12_said 91 = .ok (.iload_n 2, 1) := by decide +kernel
theorem dX12_said_92 : decode cX12_said 92 = .ok (.iload_n 1, 1) := by decide +kernel
theorem dX12_said_93 : decode cX12_said 93 = .ok (.if_icmp .ne 5, 3) := by decide +kernel
theorem dX12_said_96 : decode cX12_said 96 = .ok (.iload_n 3, 1) := by decide +kernel
theorem dX12_said_97 : decode cX12_said 97 = .ok (.ireturn, 1) := by decide +kernel
theorem dX12_said_98 : decode cX12_said 98 = .ok (.iinc 2 1, 3) := by decide +kernel
theorem dX12_said_101 : decode cX12_said 101 = .ok (.iinc 3 1, 3) := by decide +kernel
theorem dX12_said_104 : decode cX12_said 104 = .ok (.goto (-73), 3) := by decide +kernel
theorem dX12_said_107 : decode cX12_said 107 = .ok (.iload_n 1, 1) := by decide +kernel
theorem dX12_said_108 : decode cX12_said 108 = .ok (.iconst (-1), 1) := by decide +kernel
theorem dX12_said_109 : decode cX12_said 109 = .ok (.if_icmp .ne 7, 3) := by decide +kernel
theorem dX12_said_112 : decode cX12_said 112 = .ok (.iload_n 2, 1) := by decide +kernel
theorem dX12_said_113 : decode cX12_said 113 = .ok (.goto 4, 3) := by decide +kernel
theorem dX12_said_116 : decode cX12_said 116 = .ok (.iconst (-1), 1) := by decide +kernel
theorem dX12_said_117 : decode cX12_said 117 = .ok (.ireturn, 1) := by decide +kernel
theorem hcX12_said : yX12_said.cls ≠ "java/lang/invoke/MethodHandle" ∧ yX12_said.cls ≠ "java/lang/invoke/VarHandle" ∧ (parseMethodDescriptor yX12_said.desc).map (fun d => d.parameters.length) = some 1 := ⟨by decide +kernel, by decide +kernel, by decide +kernel⟩
def fX12_said_j101 (x3_31 : Int) (s19 : sg_M) (k31 : sg_M → Int → Int → Prop) (x2_101 : Int) : Prop := sg_R (x3_31 + 1) ∧ k31 s19 x2_101 (x3_31 + 1)
def fX12_said_L31 (x1 : Int) (Q : Int → sg_M → Prop) (k107 : sg_M → Int → Prop) : Nat → sg_M → Int → Int → Prop
  | 0, _, _, _ => False
  | n_31 + 1, s_31, x2_31, x3_31 => (((s_31 66 1300) < x3_31 → k107 s_31 x2_31) ∧ (¬ ((s_31 66 1300) < x3_31) → (0 ≤ ((1301 + x3_31) - 1) ∧ ((1301 + x3_31) - 1) < 2040) ∧ (0 ≤ ((1501 + x3_31) - 1) ∧ ((1501 + x3_31) - 1) < 2040) ∧ fX12_voiceOf s_31 (s_31 66 ((1301 + x3_31) - 1)) (s_31 66 ((1501 + x3_31) - 1)) (fun u17 s19 => g_mS 60 0 s19 (s19 66 1791) x3_31 (fun u22 => ((u22 ≠ 0 → ((x2_31 ≠ x1 → sg_R (x2_31 + 1) ∧ (fX12_said_j101 x3_31 s19 (fX12_said_L31 x1 Q k107 n_31)) (x2_31 + 1)) ∧ (x2_31 = x1 → Q x3_31 s19))) ∧ (u22 = 0 → (fX12_said_j101 x3_31 s19 (fX12_said_L31 x1 Q k107 n_31)) x2_31))))))
def fX12_said (s0 : sg_M) (x1 : Int) (Q : Int → sg_M → Prop) : Prop := ∀ s1 : sg_M, s1 = sg_up s0 64 0 0 → fX12_lay s1 (fun s3 => (((s3 66 1790) = 0 → Q (-1) s3) ∧ (¬ ((s3 66 1790) = 0) → (((-1) ≤ x1 → (∃ n28 : Nat, fX12_said_L31 x1 Q (fun s_107e31 x2_107e31 => ((x1 ≠ (-1) → Q (-1) s_107e31) ∧ (x1 = (-1) → Q x2_107e31 s_107e31))) n28 s3 0 1)) ∧ (¬ ((-1) ≤ x1) → Q (-1) s3)))))
set_option maxHeartbeats 4000000 in
set_option maxRecDepth 100000 in
theorem CX12_said {l : Launch} {G : sg_G} {La : sg_L} {s0 : sg_M} (hst : sg_St La) {x1 : Int} (r1 : sg_R x1) {Q : Int → sg_M → Prop} (hf : fX12_said s0 x1 Q) : sg_C l G yX12_said cX12_said 4 (some .int) 62 0 0 La s0 [sg_r 64, sg_i x1] (sg_HI La Q) := by
  refine sg_body (by decide +kernel) (Nat.le_of_ble_eq_true rfl) ?_
  intro p e s m args below meth c F hnm
  unfold fX12_said at hf
  show sg_W p l e (sg_rm 62 0 0) s m args below meth c (MQ below (sg_Q (some .int) G La s.heap.size (sg_HI La Q)) args s 0 0 (sg_A La s.heap.size)) 4 G (sg_A La s.heap.size) La s0 0 0 0 [(0, sg_r 64), (1, sg_i x1)] []
  refine gw_aload_n F 0 rfl rfl (by decide) dX12_said_0 ?_
  refine gw_iconst F dX12_said_1 ?_
  obtain ⟨s1, e2⟩ : ∃ z : sg_M, z = sg_up s0 64 0 0 := ⟨_, rfl⟩
  have hf := hf s1 e2
  refine gw_put0 F (so_64 hst) (by decide) rfl sg_lay_RX12 (j := 0) (by decide) (by decide) e2 tyX12_ok nmX12 rfl (tyX12_ok 0 (by decide)) rfl (host := "") (.inl kw_956) dX12_said_2 ?_
  refine gw_aload_n F 0 rfl rfl (by decide) dX12_said_5 ?_
  refine gk_HV F (gc_V F (S := []) (As := []) (T := TX12) (N := 62) (CX12_lay hst hf) (so_64 hst) (by decide) rfl kw_1043 kw_103 kw_1041 kw_1042 kw_41 hcX12_lay ⟨by decide, by decide⟩ rfl rfl (Nat.le_of_ble_eq_true rfl) ⟨by decide, by decide⟩ dX12_said_6) (fun s3 hf => ?_)
  refine gw_aload_n F 0 rfl rfl (by decide) dX12_said_9 ?_
  refine gw_get7 F (so_64 hst) (by decide) rfl sg_lay_RX12 (j := 14) (by decide) (o1 := 66) (by first | rfl | omega) rfl (host := "") (.inl kw_970) dX12_said_10 (fun h4 => ?_)
  refine gw_sipush F rfl dX12_said_13 ?_
  refine gw_iald F (sa_66 hst) (by decide) (by decide) dX12_said_16 (fun h5 => ?_)
  refine gw_if_eq F (tgt := 25) dX12_said_17 (by decide) h5 (fun c6 => ?_) (fun c6 => ?_)
  · have hf := hf.1 c6
    refine gw_iconst F dX12_said_25 ?_
    exact gr_HI F (by decide) hf (by decide) (by decide) dX12_said_26
  · have hf := hf.2 c6
    refine gw_iload_n F 1 rfl rfl dX12_said_20 ?_
    refine gw_iconst F dX12_said_21 ?_
    refine gw_icmp_ge F (tgt := 27) dX12_said_22 (by decide) r1 (by decide) (fun c7 => ?_) (fun c7 => ?_)
    · have hf := hf.1 c7
      refine gw_iconst F dX12_said_27 ?_
      refine gw_istore_n F rfl (by decide) rfl dX12_said_28 ?_
      refine gw_iconst F dX12_said_29 ?_
      refine gw_istore_n F rfl (by decide) rfl dX12_said_30 ?_
      have L31 : ∀ (k107 : sg_M → Int → Prop) (hk107 : ∀ (s_107e31 : sg_M) (x2_107e31 : Int), sg_R x2_107e31 → k107 s_107e31 x2_107e31 → sg_W p l e (sg_rm 62 0 0) s m args below meth c (MQ below (sg_Q (some .int) G La s.heap.size (sg_HI La Q)) args s 0 0 (sg_A La s.heap.size)) 4 G (sg_A La s.heap.size) La s_107e31 0 0 107 [(1, sg_i x1), (2, sg_i x2_107e31)] []), ∀ n_31 : Nat, ∀ (s_31 : sg_M) (x2_31 : Int) (x3_31 : Int), sg_R x2_31 → sg_R x3_31 → fX12_said_L31 x1 Q k107 n_31 s_31 x2_31 x3_31 → sg_W p l e (sg_rm 62 0 0) s m args below meth c (MQ below (sg_Q (some .int) G La s.heap.size (sg_HI La Q)) args s 0 0 (sg_A La s.heap.size)) 4 G (sg_A La s.heap.size) La s_31 0 0 31 [(0, sg_r 64), (1, sg_i x1), (2, sg_i x2_31), (3, sg_i x3_31)] [] := by
        intro k107 hk107 n_31
        induction n_31 with
        | zero => intro s_31 x2_31 x3_31 r2_31 r3_31 hf; exact hf.elim
        | succ n_31 ih =>
          intro s_31 x2_31 x3_31 r2_31 r3_31 hf
          unfold fX12_said_L31 at hf
          refine gw_iload_n F 3 rfl rfl dX12_said_31 ?_
          refine gw_aload_n F 0 rfl rfl (by decide) dX12_said_32 ?_
          refine gw_get7 F (so_64 hst) (by decide) rfl sg_lay_RX12 (j := 14) (by decide) (o1 := 66) (by first | rfl | omega) rfl (host := "") (.inl kw_970) dX12_said_33 (fun h8 => ?_)
          refine gw_sipush F rfl dX12_said_36 ?_
          refine gw_iald F (sa_66 hst) (by decide) (by decide) dX12_said_39 (fun h9 => ?_)
          refine gw_icmp_gt F (tgt := 107) dX12_said_40 (by decide) r3_31 h9 (fun c10 => ?_) (fun c10 => ?_)
          · have hf := hf.1 c10
            refine gw_sub [1, 2] rfl ?_
            exact hk107 s_31 x2_31 r2_31 hf
          · have hf := hf.2 c10
            refine gw_aload_n F 0 rfl rfl (by decide) dX12_said_43 ?_
            refine gw_aload_n F 0 rfl rfl (by decide) dX12_said_44 ?_
            refine gw_get7 F (so_64 hst) (by decide) rfl sg_lay_RX12 (j := 14) (by decide) (o1 := 66) (by first | rfl | omega) rfl (host := "") (.inl kw_970) dX12_said_45 (fun h11 => ?_)
            refine gw_sipush F rfl dX12_said_48 ?_
            refine gw_iload_n F 3 rfl rfl dX12_said_51 ?_
            refine gw_iadd F rfl dX12_said_52 ?_
            refine gw_iconst F dX12_said_53 ?_
            refine gw_isub F rfl dX12_said_54 ?_
            obtain ⟨⟨b120, b121⟩, hf⟩ := hf
            refine gw_iald F (sa_66 hst) b120 b121 dX12_said_55 (fun h13 => ?_)
            refine gw_aload_n F 0 rfl rfl (by decide) dX12_said_56 ?_
            refine gw_get7 F (so_64 hst) (by decide) rfl sg_lay_RX12 (j := 14) (by decide) (o1 := 66) (by first | rfl | omega) rfl (host := "") (.inl kw_970) dX12_said_57 (fun h14 => ?_)
            refine gw_sipush F rfl dX12_said_60 ?_
            refine gw_iload_n F 3 rfl rfl dX12_said_63 ?_
            refine gw_iadd F rfl dX12_said_64 ?_
            refine gw_iconst F dX12_said_65 ?_
            refine gw_isub F rfl dX12_said_66 ?_
            obtain ⟨⟨b150, b151⟩, hf⟩ := hf
            refine gw_iald F (sa_66 hst) b150 b151 dX12_said_67 (fun h16 => ?_)
            refine gk_HI F (gc_V F (S := []) (As := [sg_i (s_31 66 ((1301 + x3_31) - 1)), sg_i (s_31 66 ((1501 + x3_31) - 1))]) (T := TX12) (N := 62) (CX12_voiceOf hst h13 h16 hf) (so_64 hst) (by decide) rfl kw_1202 kw_103 kw_1200 kw_1201 kw_68 hcX12_voiceOf ⟨by decide, by decide⟩ rfl rfl (Nat.le_of_ble_eq_true rfl) ⟨by decide, by decide⟩ dX12_said_68) (fun u17 s19 h18 hf => ?_)
            refine gw_pop F rfl dX12_said_71 ?_
            refine gw_aload_n F 0 rfl rfl (by decide) dX12_said_72 ?_
            refine gw_aload_n F 0 rfl rfl (by decide) dX12_said_73 ?_
            refine gw_get7 F (so_64 hst) (by decide) rfl sg_lay_RX12 (j := 14) (by decide) (o1 := 66) (by first | rfl | omega) rfl (host := "") (.inl kw_970) dX12_said_74 (fun h20 => ?_)
            refine gw_sipush F rfl dX12_said_77 ?_
            refine gw_iald F (sa_66 hst) (by decide) (by decide) dX12_said_80 (fun h21 => ?_)
            refine gw_iload_n F 3 rfl rfl dX12_said_81 ?_
            refine gk_PZ F (gc_V F (S := []) (As := [sg_i (s19 66 1791), sg_i x3_31]) (T := TX12) (N := 62) ((G_mS hst 60) h21 r3_31 hf) (so_64 hst) (by decide) rfl kw_1335 kw_103 kw_1333 kw_1334 kw_87 hcX12_isSo ⟨by decide +kernel, by decide +kernel⟩ rfl rfl (Nat.le_of_ble_eq_true rfl) ⟨by decide +kernel, by decide +kernel⟩ dX12_said_82) (fun u22 h23 hf => ?_)
            have J101 : ∀ (x2_101 : Int), sg_R x2_101 → (fX12_said_j101 x3_31 s19 (fX12_said_L31 x1 Q k107 n_31)) x2_101 → sg_W p l e (sg_rm 62 0 0) s m args below meth c (MQ below (sg_Q (some .int) G La s.heap.size (sg_HI La Q)) args s 0 0 (sg_A La s.heap.size)) 4 G (sg_A La s.heap.size) La s19 0 0 101 [(0, sg_r 64), (1, sg_i x1), (2, sg_i x2_101), (3, sg_i x3_31)] [] := by
              intro x2_101 r2_101 hf
              unfold fX12_said_j101 at hf
              refine gw_iinc F (z := (x3_31 + 1)) 3 rfl (by omega) (by decide) rfl dX12_said_101 ?_
              refine gw_goto F (tgt := 31) dX12_said_104 (by decide) ?_
              obtain ⟨g24, hf⟩ := hf
              refine gw_sub [1, 2, 3, 0] rfl ?_
              exact ih s19 x2_101 (x3_31 + 1) r2_101 g24 hf
            refine gw_if_ne F (tgt := 91) dX12_said_85 (by decide) (sg_B_R h23) (fun c25 => ?_) (fun c25 => ?_)
            · have hf := hf.1 c25
              refine gw_iload_n F 2 rfl rfl dX12_said_91 ?_
              refine gw_iload_n F 1 rfl rfl dX12_said_92 ?_
              refine gw_icmp_ne F (tgt := 98) dX12_said_93 (by decide) r2_31 r1 (fun c26 => ?_) (fun c26 => ?_)
              · have hf := hf.1 c26
                refine gw_iinc F (z := (x2_31 + 1)) 2 rfl (by omega) (by decide) rfl dX12_said_98 ?_
                obtain ⟨g27, hf⟩ := hf
                refine gw_sub [1, 2, 0, 3] rfl ?_
                exact J101 (x2_31 + 1) g27 hf
              · have hf := hf.2 c26
                refine gw_iload_n F 3 rfl rfl dX12_said_96 ?_
                exact gr_HI F r3_31 hf (by decide) (by decide) dX12_said_97
            · have hf := hf.2 c25
              refine gw_goto F (tgt := 101) dX12_said_88 (by decide) ?_
              refine gw_sub [0, 1, 2, 3] rfl ?_
              exact J101 x2_31 r2_31 hf
      obtain ⟨n28, hf⟩ := hf
      refine gw_sub [2, 3, 1, 0] rfl ?_
      refine L31 _ (fun s_107e31 x2_107e31 r2_107e31 hf => ?_) n28 s3 0 1 (by decide) (by decide) hf
      refine gw_iload_n F 0 rfl rfl dX12_said_107 ?_
      refine gw_iconst F dX12_said_108 ?_
      refine gw_icmp_ne F (tgt := 116) dX12_said_109 (by decide) r1 (by decide) (fun c29 => ?_) (fun c29 => ?_)
      · have hf := hf.1 c29
        refine gw_iconst F dX12_said_116 ?_
        exact gr_HI F (by decide) hf (by decide) (by decide) dX12_said_117
      · have hf := hf.2 c29
        refine gw_iload_n F 1 rfl rfl dX12_said_112 ?_
        refine gw_goto F (tgt := 117) dX12_said_113 (by decide) ?_
        exact gr_HI F r2_107e31 hf (by decide) (by decide) dX12_said_117
    · have hf := hf.2 c7
      refine gw_iconst F dX12_said_25 ?_
      exact gr_HI F (by decide) hf (by decide) (by decide) dX12_said_26

theorem dX12_sentence_0 : decode cX12_sentence 0 = .ok (.aload_n 0, 1) := by decide +kernel
theorem dX12_sentence_1 : decode cX12_sentence 1 = .ok (.sipush 200, 3) := by decide +kernel
theorem dX12_sentence_4 : decode cX12_sentence 4 = .ok (.invokevirtual 196, 3) := by decide +kernel
theorem dX12_sentence_7 : decode cX12_sentence 7 = .ok (.aload_n 0, 1) := by decide +kernel
theorem dX12_sentence_8 : decode cX12_sentence 8 = .ok (.iconst 0, 1) := by decide +kernel
theorem dX12_sentence_9 : decode cX12_sentence 9 = .ok (.putfield 362, 3) := by decide +kernel
theorem dX12_sentence_12 : decode cX12_sentence 12 = .ok (.aload_n 0, 1) := by decide +kernel
theorem dX12_sentence_13 : decode cX12_sentence 13 = .ok (.iconst 0, 1) := by decide +kernel
theorem dX12_sentence_14 : decode cX12_sentence 14 = .ok (.putfield 378, 3) := by decide +kernel
theorem dX12_sentence_17 : decode cX12_sentence 17 = .ok (.aload_n 0, 1) := by decide +kernel
theorem dX12_sentence_18 : decode cX12_sentence 18 = .ok (.iconst 0, 1) := by decide +kernel
theorem dX12_sentence_19 : decode cX12_sentence 19 = .ok (.putfield 381, 3) := by decide +kernel
theorem dX12_sentence_22 : decode cX12_sentence 22 = .ok (.aload_n 0, 1) := by decide +kernel
theorem dX12_sentence_23 : decode cX12_sentence 23 = .ok (.invokevirtual 393, 3) := by decide +kernel
theorem dX12_sentence_26 : decode cX12_sentence 26 = .ok (.ifCond .ne 10, 3) := by decide +kernel
theorem dX12_sentence_29 : decode cX12_sentence 29 = .ok (.iconst (-1), 1) := by decide +kernel
theorem dX12_sentence_30 : decode cX12_sentence 30 = .ok (.aload_n 0, 1) := by decide +kernel
theorem dX12_sentence_31 : decode cX12_sentence 31 = .ok (.getfield 149, 3) := by decide +kernel
theorem dX12_sentence_34 : decode cX12_sentence 34 = .ok (.isub, 1) := by decide +kernel
theorem dX12_sentence_35 : decode cX12_sentence 35 = .ok (.ireturn, 1) := by decide +kernel
theorem dX12_sentence_36 : decode cX12_sentence 36 = .ok (.aload_n 0, 1) := by decide +kernel
theorem dX12_sentence_37 : decode cX12_sentence 37 = .ok (.getfield 106, 3) := by decide +kernel
theorem dX12_sentence_40 : decode cX12_sentence 40 = .ok (.ifCond .eq 16, 3) := by decide +kernel
theorem dX12_sentence_43 : decode cX12_sentence 43 = .ok (.aload_n 0, 1) := by decide +kernel
theorem dX12_sentence_44 : decode cX12_sentence 44 = .ok (.iconst 1, 1) := by decide +kernel
theorem dX12_sentence_45 : decode cX12_sentence 45 = .ok (.invokevirtual 152, 3) := by decide +kernel
theorem dX12_sentence_48 : decode cX12_sentence 48 = .ok (.pop, 1) := by decide +kernel
theorem dX12_sentence_49 : decode cX12_sentence 49 = .ok (.iconst (-1), 1) := by decide +kernel
theorem dX12_sentence_50 : decode cX12_sentence 50 = .ok (.aload_n 0, 1) := by decide +kernel
theorem dX12_sentence_51 : decode cX12_sentence 51 = .ok (.getfield 149, 3) := by decide +kernel
theorem dX12_sentence_54 : decode cX12_sentence 54 = .ok (.isub, 1) := by decide +kernel
theorem dX12_sentence_55 : decode cX12_sentence 55 = .ok (.ireturn, 1) := by decide +kernel
theorem dX12_sentence_56 : decode cX12_sentence 56 = .ok (.aload_n 0, 1) := by decide +kernel
theorem dX12_sentence_57 : decode cX12_sentence 57 = .ok (.getfield 13, 3) := by decide +kernel
theorem dX12_sentence_60 : decode cX12_sentence 60 = .ok (.sipush 1790, 3) := by decide +kernel
theorem dX12_sentence_63 : decode cX12_sentence 63 = .ok (.iconst 1, 1) := by decide +kernel
theorem dX12_sentence_64 : decode cX12_sentence 64 = .ok (.iastore, 1) := by decide +kernel
theorem dX12_sentence_65 : decode cX12_sentence 65 = .ok (.aload_n 0, 1) := by decide +kernel
theorem dX12_sentence_66 : decode cX12_sentence 66 = .ok (.getfield 13, 3) := by decide +kernel
theorem dX12_sentence_69 : decode cX12_sentence 69 = .ok (.sipush 1791, 3) := by decide +kernel
theorem dX12_sentence_72 : decode cX12_sentence 72 = .ok (.aload_n 0, 1) := by decide +kernel
theorem dX12_sentence_73 : decode cX12_sentence 73 = .ok (.getfield 368, 3) := by decide +kernel
theorem dX12_sentence_76 : decode cX12_sentence 76 = .ok (.iastore, 1) := by decide +kernel
theorem dX12_sentence_77 : decode cX12_sentence 77 = .ok (.iconst 0, 1) := by decide +kernel
theorem dX12_sentence_78 : decode cX12_sentence 78 = .ok (.istore_n 1, 1) := by decide +kernel
theorem dX12_sentence_79 : decode cX12_sentence 79 = .ok (.iload_n 1, 1) := by decide +kernel
theorem dX12_sentence_80 : decode cX12_sentence 80 = .ok (.sipush 240, 3) := by decide +kernel
theorem dX12_sentence_83 : decode cX12_sentence 83 = .ok (.if_icmp .ge 25, 3) := by decide +kernel
theorem dX12_sentence_86 : decode cX12_sentence 86 = .ok (.aload_n 0, 1) := by decide +kernel
theorem dX12_sentence_87 : decode cX12_sentence 87 = .ok (.getfield 13, 3) := by decide +kernel
theorem dX12_sentence_90 : decode cX12_sentence 90 = .ok (.sipush 1800, 3) := by decide +kernel
theorem dX12_sentence_93 : decode cX12_sentence 93 = .ok (.iload_n 1, 1) := by decide +kernel
theorem dX12_sentence_94 : decode cX12_sentence 94 = .ok (.iadd, 1) := by decide +kernel
theorem dX12_sentence_95 : decode cX12_sentence 95 = .ok (.aload_n 0, 1) := by decide +kernel
theorem dX12_sentence_96 : decode cX12_sentence 96 = .ok (.getfield 81, 3) := by decide +kernel
theorem dX12_sentence_99 : decode cX12_sentence 99 = .ok (.iload_n 1, 1) := by decide +kernel
theorem dX12_sentence_100 : decode cX12_sentence 100 = .ok (.iaload, 1) := by decide +kernel
theorem dX12_sentence_101 : decode cX12_sentence 101 = .ok (.iastore, 1) := by decide +kernel
theorem dX12_sentence_102 : decode cX12_sentence 102 = .ok (.iinc 1 1, 3) := by decide +kernel
theorem dX12_sentence_105 : decode cX12_sentence 105 = .ok (.goto (-26), 3) := by decide +kernel
theorem dX12_sentence_108 : decode cX12_sentence 108 = .ok (.aload_n 0, 1) := by decide +kernel
theorem dX12_sentence_109 : decode cX12_sentence 109 = .ok (.getfield 378, 3) := by decide +kernel
theorem dX12_sentence_112 : decode cX12_sentence 112 = .ok (.ireturn, 1) := by decide +kernel
theorem hcX12_sentence : yX12_sentence.cls ≠ "java/lang/invoke/MethodHandle" ∧ yX12_sentence.cls ≠ "java/lang/invoke/VarHandle" ∧ (parseMethodDescriptor yX12_sentence.desc).map (fun d => d.parameters.length) = some 0 := ⟨by decide +kernel, by decide +kernel, by decide +kernel⟩
def fX12_sentence_L79  (Q : Int → sg_M → Prop) : Nat → sg_M → Int → Prop
  | 0, _, _ => False
  | n_79 + 1, s_79, x1_79 => ((240 ≤ x1_79 → Q (s_79 64 59) s_79) ∧ (¬ (240 ≤ x1_79) → (0 ≤ x1_79 ∧ x1_79 < 240) ∧ (0 ≤ (1800 + x1_79) ∧ (1800 + x1_79) < 2040) ∧ ∀ s28 : sg_M, s28 = sg_up s_79 66 (1800 + x1_79) (s_79 87 x1_79) → sg_R (x1_79 + 1) ∧ (fX12_sentence_L79  Q n_79) s28 (x1_79 + 1)))
def fX12_sentence (s0 : sg_M) (Q : Int → sg_M → Prop) : Prop := fX12_begin s0 200 (fun s1 => ∀ s2 : sg_M, s2 = sg_up s1 64 58 0 → ∀ s4 : sg_M, s4 = sg_up s2 64 59 0 → ∀ s6 : sg_M, s6 = sg_up s4 64 60 0 → g_mR 60 0 s6 (fun u8 s10 => ((u8 ≠ 0 → (((s10 64 7) = 0 → ∀ s15 : sg_M, s15 = sg_up s10 66 1790 1 → ∀ s19 : sg_M, s19 = sg_up s15 66 1791 (s15 64 61) → (∃ n31 : Nat, fX12_sentence_L79  Q n31 s19 0)) ∧ (¬ ((s10 64 7) = 0) → fX12_bad s10 1 (fun u32 s34 => sg_R ((-1) - (s34 64 11)) ∧ Q ((-1) - (s34 64 11)) s34)))) ∧ (u8 = 0 → sg_R ((-1) - (s10 64 11)) ∧ Q ((-1) - (s10 64 11)) s10))))
set_option maxHeartbeats 4000000 in
set_option maxRecDepth 100000 in
theorem CX12_sentence {l : Launch} {G : sg_G} {La : sg_L} {s0 : sg_M} (hst : sg_St La) {Q : Int → sg_M → Prop} (hf : fX12_sentence s0 Q) : sg_C l G yX12_sentence cX12_sentence 2 (some .int) 65 0 0 La s0 [sg_r 64] (sg_HI La Q) := by
  refine sg_body (by decide +kernel) (Nat.le_of_ble_eq_true rfl) ?_
  intro p e s m args below meth c F hnm
  unfold fX12_sentence at hf
  show sg_W p l e (sg_rm 65 0 0) s m args below meth c (MQ below (sg_Q (some .int) G La s.heap.size (sg_HI La Q)) args s 0 0 (sg_A La s.heap.size)) 2 G (sg_A La s.heap.size) La s0 0 0 0 [(0, sg_r 64)] []
  refine gw_aload_n F 0 rfl rfl (by decide) dX12_sentence_0 ?_
  refine gw_sipush F rfl dX12_sentence_1 ?_
  refine gk_HV F (gc_V F (S := []) (As := [sg_i 200]) (T := TX12) (N := 62) (CX12_begin hst (by decide) hf) (so_64 hst) (by decide) rfl kw_1040 kw_103 kw_1038 kw_1039 kw_40 hcX12_begin ⟨by decide, by decide⟩ rfl rfl (Nat.le_of_ble_eq_true rfl) ⟨by decide, by decide⟩ dX12_sentence_4) (fun s1 hf => ?_)
  refine gw_aload_n F 0 rfl rfl (by decide) dX12_sentence_7 ?_
  refine gw_iconst F dX12_sentence_8 ?_
  obtain ⟨s2, e3⟩ : ∃ z : sg_M, z = sg_up s1 64 58 0 := ⟨_, rfl⟩
  have hf := hf s2 e3
  refine gw_put0 F (so_64 hst) (by decide) rfl sg_lay_RX12 (j := 58) (by decide) (by decide) e3 tyX12_ok nmX12 rfl (tyX12_ok 58 (by decide)) rfl (host := "") (.inl kw_1014) dX12_sentence_9 ?_
  refine gw_aload_n F 0 rfl rfl (by decide) dX12_sentence_12 ?_
  refine gw_iconst F dX12_sentence_13 ?_
  obtain ⟨s4, e5⟩ : ∃ z : sg_M, z = sg_up s2 64 59 0 := ⟨_, rfl⟩
  have hf := hf s4 e5
  refine gw_put0 F (so_64 hst) (by decide) rfl sg_lay_RX12 (j := 59) (by decide) (by decide) e5 tyX12_ok nmX12 rfl (tyX12_ok 59 (by decide)) rfl (host := "") (.inl kw_1015) dX12_sentence_14 ?_
  refine gw_aload_n F 0 rfl rfl (by decide) dX12_sentence_17 ?_
  refine gw_iconst F dX12_sentence_18 ?_
  obtain ⟨s6, e7⟩ : ∃ z : sg_M, z = sg_up s4 64 60 0 := ⟨_, rfl⟩
  have hf := hf s6 e7
  refine gw_put0 F (so_64 hst) (by decide) rfl sg_lay_RX12 (j := 60) (by decide) (by decide) e7 tyX12_ok nmX12 rfl (tyX12_ok 60 (by decide)) rfl (host := "") (.inl kw_1016) dX12_sentence_19 ?_
  refine gw_aload_n F 0 rfl rfl (by decide) dX12_sentence_22 ?_
  refine gk_HZ F (gc_V F (S := []) (As := []) (T := TX12) (N := 62) ((G_mR hst 60).1  hf) (so_64 hst) (by decide) rfl kw_1310 kw_103 kw_1308 kw_1309 kw_80 hcX12_readOr ⟨by decide +kernel, by decide +kernel⟩ rfl rfl (Nat.le_of_ble_eq_true rfl) ⟨by decide +kernel, by decide +kernel⟩ dX12_sentence_23) (fun u8 s10 h9 hf => ?_)
  refine gw_if_ne F (tgt := 36) dX12_sentence_26 (by decide) (sg_B_R h9) (fun c11 => ?_) (fun c11 => ?_)
  · have hf := hf.1 c11
    refine gw_aload_n F 0 rfl rfl (by decide) dX12_sentence_36 ?_
    refine gw_get0 F (so_64 hst) (by decide) rfl sg_lay_RX12 (j := 7) (by decide) rfl (host := "") (.inl kw_963) dX12_sentence_37 (fun h12 => ?_)
    refine gw_if_eq F (tgt := 56) dX12_sentence_40 (by decide) h12 (fun c13 => ?_) (fun c13 => ?_)
    · have hf := hf.1 c13
      refine gw_aload_n F 0 rfl rfl (by decide) dX12_sentence_56 ?_
      refine gw_get7 F (so_64 hst) (by decide) rfl sg_lay_RX12 (j := 14) (by decide) (o1 := 66) (by first | rfl | omega) rfl (host := "") (.inl kw_970) dX12_sentence_57 (fun h14 => ?_)
      refine gw_sipush F rfl dX12_sentence_60 ?_
      refine gw_iconst F dX12_sentence_63 ?_
      obtain ⟨s15, e16⟩ : ∃ z : sg_M, z = sg_up s10 66 1790 1 := ⟨_, rfl⟩
      have hf := hf s15 e16
      refine gw_iast F (sa_66 hst) (by decide) (by decide) (by decide) e16 dX12_sentence_64 ?_
      refine gw_aload_n F 0 rfl rfl (by decide) dX12_sentence_65 ?_
      refine gw_get7 F (so_64 hst) (by decide) rfl sg_lay_RX12 (j := 14) (by decide) (o1 := 66) (by first | rfl | omega) rfl (host := "") (.inl kw_970) dX12_sentence_66 (fun h17 => ?_)
      refine gw_sipush F rfl dX12_sentence_69 ?_
      refine gw_aload_n F 0 rfl rfl (by decide) dX12_sentence_72 ?_
      refine gw_get0 F (so_64 hst) (by decide) rfl sg_lay_RX12 (j := 61) (by decide) rfl (host := "") (.inl kw_1017) dX12_sentence_73 (fun h18 => ?_)
      obtain ⟨s19, e20⟩ : ∃ z : sg_M, z = sg_up s15 66 1791 (s15 64 61) := ⟨_, rfl⟩
      have hf := hf s19 e20
      refine gw_iast F (sa_66 hst) (by decide) (by decide) h18 e20 dX12_sentence_76 ?_
      refine gw_iconst F dX12_sentence_77 ?_
      refine gw_istore_n F rfl (by decide) rfl dX12_sentence_78 ?_
      have L79 : ∀ n_79 : Nat, ∀ (s_79 : sg_M) (x1_79 : Int), sg_R x1_79 → fX12_sentence_L79  Q n_79 s_79 x1_79 → sg_W p l e (sg_rm 65 0 0) s m args below meth c (MQ below (sg_Q (some .int) G La s.heap.size (sg_HI La Q)) args s 0 0 (sg_A La s.heap.size)) 2 G (sg_A La s.heap.size) La s_79 0 0 79 [(0, sg_r 64), (1, sg_i x1_79)] [] := by
        intro n_79
        induction n_79 with
        | zero => intro s_79 x1_79 r1_79 hf; exact hf.elim
        | succ n_79 ih =>
          intro s_79 x1_79 r1_79 hf
          unfold fX12_sentence_L79 at hf
          refine gw_iload_n F 1 rfl rfl dX12_sentence_79 ?_
          refine gw_sipush F rfl dX12_sentence_80 ?_
          refine gw_icmp_ge F (tgt := 108) dX12_sentence_83 (by decide) r1_79 (by decide) (fun c21 => ?_) (fun c21 => ?_)
          · have hf := hf.1 c21
            refine gw_aload_n F 0 rfl rfl (by decide) dX12_sentence_108 ?_
            refine gw_get0 F (so_64 hst) (by decide) rfl sg_lay_RX12 (j := 59) (by decide) rfl (host := "") (.inl kw_1015) dX12_sentence_109 (fun h22 => ?_)
            exact gr_HI F h22 hf (by decide) (by decide) dX12_sentence_112
          · have hf := hf.2 c21
            refine gw_aload_n F 0 rfl rfl (by decide) dX12_sentence_86 ?_
            refine gw_get7 F (so_64 hst) (by decide) rfl sg_lay_RX12 (j := 14) (by decide) (o1 := 66) (by first | rfl | omega) rfl (host := "") (.inl kw_970) dX12_sentence_87 (fun h23 => ?_)
            refine gw_sipush F rfl dX12_sentence_90 ?_
            refine gw_iload_n F 1 rfl rfl dX12_sentence_93 ?_
            refine gw_iadd F rfl dX12_sentence_94 ?_
            refine gw_aload_n F 0 rfl rfl (by decide) dX12_sentence_95 ?_
            refine gw_get7 F (so_64 hst) (by decide) rfl sg_lay_RX12 (j := 57) (by decide) (o1 := 87) (by first | rfl | omega) rfl (host := "") (.inl kw_1013) dX12_sentence_96 (fun h24 => ?_)
            refine gw_iload_n F 1 rfl rfl dX12_sentence_99 ?_
            obtain ⟨⟨b250, b251⟩, hf⟩ := hf
            refine gw_iald F (sa_87 hst) b250 b251 dX12_sentence_100 (fun h26 => ?_)
            obtain ⟨⟨b270, b271⟩, hf⟩ := hf
            obtain ⟨s28, e29⟩ : ∃ z : sg_M, z = sg_up s_79 66 (1800 + x1_79) (s_79 87 x1_79) := ⟨_, rfl⟩
            have hf := hf s28 e29
            refine gw_iast F (sa_66 hst) b270 b271 h26 e29 dX12_sentence_101 ?_
            refine gw_iinc F (z := (x1_79 + 1)) 1 rfl (by omega) (by decide) rfl dX12_sentence_102 ?_
            refine gw_goto F (tgt := 79) dX12_sentence_105 (by decide) ?_
            obtain ⟨g30, hf⟩ := hf
            refine gw_sub [1, 0] rfl ?_
            exact ih s28 (x1_79 + 1) g30 hf
      obtain ⟨n31, hf⟩ := hf
      refine gw_sub [1, 0] rfl ?_
      refine L79   n31 s19 0 (by decide) hf
    · have hf := hf.2 c13
      refine gw_aload_n F 0 rfl rfl (by decide) dX12_sentence_43 ?_
      refine gw_iconst F dX12_sentence_44 ?_
      refine gk_HZ F (gc_V F (S := []) (As := [sg_i 1]) (T := TX12) (N := 62) (CX12_bad hst (by decide) hf) (so_64 hst) (by decide) rfl kw_1078 kw_103 kw_1076 kw_1077 kw_47 hcX12_bad ⟨by decide, by decide⟩ rfl rfl (Nat.le_of_ble_eq_true rfl) ⟨by decide, by decide⟩ dX12_sentence_45) (fun u32 s34 h33 hf => ?_)
      refine gw_pop F rfl dX12_sentence_48 ?_
      refine gw_iconst F dX12_sentence_49 ?_
      refine gw_aload_n F 0 rfl rfl (by decide) dX12_sentence_50 ?_
      refine gw_get0 F (so_64 hst) (by decide) rfl sg_lay_RX12 (j := 11) (by decide) rfl (host := "") (.inl kw_967) dX12_sentence_51 (fun h35 => ?_)
      refine gw_isub F rfl dX12_sentence_54 ?_
      obtain ⟨g36, hf⟩ := hf
      exact gr_HI F g36 hf (by decide) (by decide) dX12_sentence_55
  · have hf := hf.2 c11
    refine gw_iconst F dX12_sentence_29 ?_
    refine gw_aload_n F 0 rfl rfl (by decide) dX12_sentence_30 ?_
    refine gw_get0 F (so_64 hst) (by decide) rfl sg_lay_RX12 (j := 11) (by decide) rfl (host := "") (.inl kw_967) dX12_sentence_31 (fun h37 => ?_)
    refine gw_isub F rfl dX12_sentence_34 ?_
    obtain ⟨g38, hf⟩ := hf
    exact gr_HI F g38 hf (by decide) (by decide) dX12_sentence_35
