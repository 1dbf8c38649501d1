/-! STEP ROWS of the reference. By program (wip/wp/gen_parts.py). -/
theorem eX11_change_0 : decode cX11_change 0 = .ok (.aload_n 0, 1) := by decide +kernel
theorem eX11_change_1 : decode cX11_change 1 = .ok (.iconst 2, 1) := by decide +kernel
theorem eX11_change_2 : decode cX11_change 2 = .ok (.invokevirtual 212, 3) := by decide +kernel
theorem eX11_change_5 : decode cX11_change 5 = .ok (.aload_n 0, 1) := by decide +kernel
theorem eX11_change_6 : decode cX11_change 6 = .ok (.getfield 24, 3) := by decide +kernel
theorem eX11_change_9 : decode cX11_change 9 = .ok (.iconst 2, 1) := by decide +kernel
theorem eX11_change_10 : decode cX11_change 10 = .ok (.aload_n 0, 1) := by decide +kernel
theorem eX11_change_11 : decode cX11_change 11 = .ok (.getfield 24, 3) := by decide +kernel
theorem eX11_change_14 : decode cX11_change 14 = .ok (.aload_n 0, 1) := by decide +kernel
theorem eX11_change_15 : decode cX11_change 15 = .ok (.getfield 321, 3) := by decide +kernel
theorem eX11_change_18 : decode cX11_change 18 = .ok (.iaload, 1) := by decide +kernel
theorem eX11_change_19 : decode cX11_change 19 = .ok (.iastore, 1) := by decide +kernel
theorem eX11_change_20 : decode cX11_change 20 = .ok (.aload_n 0, 1) := by decide +kernel
theorem eX11_change_21 : decode cX11_change 21 = .ok (.getfield 27, 3) := by decide +kernel
theorem eX11_change_24 : decode cX11_change 24 = .ok (.iconst 2, 1) := by decide +kernel
theorem eX11_change_25 : decode cX11_change 25 = .ok (.aload_n 0, 1) := by decide +kernel
theorem eX11_change_26 : decode cX11_change 26 = .ok (.getfield 27, 3) := by decide +kernel
theorem eX11_change_29 : decode cX11_change 29 = .ok (.aload_n 0, 1) := by decide +kernel
theorem eX11_change_30 : decode cX11_change 30 = .ok (.getfield 321, 3) := by decide +kernel
theorem eX11_change_33 : decode cX11_change 33 = .ok (.iaload, 1) := by decide +kernel
theorem eX11_change_34 : decode cX11_change 34 = .ok (.iastore, 1) := by decide +kernel
theorem eX11_change_35 : decode cX11_change 35 = .ok (.iconst 0, 1) := by decide +kernel
theorem eX11_change_36 : decode cX11_change 36 = .ok (.istore 4, 2) := by decide +kernel
theorem eX11_change_38 : decode cX11_change 38 = .ok (.iload 4, 2) := by decide +kernel
theorem eX11_change_40 : decode cX11_change 40 = .ok (.bipush 20, 2) := by decide +kernel
theorem eX11_change_42 : decode cX11_change 42 = .ok (.if_icmp .ge 34, 3) := by decide +kernel
theorem eX11_change_45 : decode cX11_change 45 = .ok (.aload_n 0, 1) := by decide +kernel
theorem eX11_change_46 : decode cX11_change 46 = .ok (.getfield 63, 3) := by decide +kernel
theorem eX11_change_49 : decode cX11_change 49 = .ok (.bipush 40, 2) := by decide +kernel
theorem eX11_change_51 : decode cX11_change 51 = .ok (.iload 4, 2) := by decide +kernel
theorem eX11_change_53 : decode cX11_change 53 = .ok (.iadd, 1) := by decide +kernel
theorem eX11_change_54 : decode cX11_change 54 = .ok (.aload_n 0, 1) := by decide +kernel
theorem eX11_change_55 : decode cX11_change 55 = .ok (.getfield 63, 3) := by decide +kernel
theorem eX11_change_58 : decode cX11_change 58 = .ok (.bipush 20, 2) := by decide +kernel
theorem eX11_change_60 : decode cX11_change 60 = .ok (.aload_n 0, 1) := by decide +kernel
theorem eX11_change_61 : decode cX11_change 61 = .ok (.getfield 321, 3) := by decide +kernel
theorem eX11_change_64 : decode cX11_change 64 = .ok (.imul, 1) := by decide +kernel
theorem eX11_change_65 : decode cX11_change 65 = .ok (.iload 4, 2) := by decide +kernel
theorem eX11_change_67 : decode cX11_change 67 = .ok (.iadd, 1) := by decide +kernel
theorem eX11_change_68 : decode cX11_change 68 = .ok (.iaload, 1) := by decide +kernel
theorem eX11_change_69 : decode cX11_change 69 = .ok (.iastore, 1) := by decide +kernel
theorem eX11_change_70 : decode cX11_change 70 = .ok (.iinc 4 1, 3) := by decide +kernel
theorem eX11_change_73 : decode cX11_change 73 = .ok (.goto (-35), 3) := by decide +kernel
theorem eX11_change_76 : decode cX11_change 76 = .ok (.iconst 0, 1) := by decide +kernel
theorem eX11_change_77 : decode cX11_change 77 = .ok (.istore 4, 2) := by decide +kernel
theorem eX11_change_79 : decode cX11_change 79 = .ok (.iload 4, 2) := by decide +kernel
theorem eX11_change_81 : decode cX11_change 81 = .ok (.aload_n 0, 1) := by decide +kernel
theorem eX11_change_82 : decode cX11_change 82 = .ok (.getfield 24, 3) := by decide +kernel
theorem eX11_change_85 : decode cX11_change 85 = .ok (.aload_n 0, 1) := by decide +kernel
theorem eX11_change_86 : decode cX11_change 86 = .ok (.getfield 321, 3) := by decide +kernel
theorem eX11_change_89 : decode cX11_change 89 = .ok (.iaload, 1) := by decide +kernel
theorem eX11_change_90 : decode cX11_change 90 = .ok (.if_icmp .ge 169, 3) := by decide +kernel
theorem eX11_change_93 : decode cX11_change 93 = .ok (.aload_n 0, 1) := by decide +kernel
theorem eX11_change_94 : decode cX11_change 94 = .ok (.getfield 66, 3) := by decide +kernel
theorem eX11_change_97 : decode cX11_change 97 = .ok (.bipush 16, 2) := by decide +kernel
theorem eX11_change_99 : decode cX11_change 99 = .ok (.iload 4, 2) := by decide +kernel
theorem eX11_change_101 : decode cX11_change 101 = .ok (.iadd, 1) := by decide +kernel
theorem eX11_change_102 : decode cX11_change 102 = .ok (.aload_n 0, 1) := by decide +kernel
theorem eX11_change_103 : decode cX11_change 103 = .ok (.getfield 66, 3) := by decide +kernel
theorem eX11_change_106 : decode cX11_change 106 = .ok (.bipush 8, 2) := by decide +kernel
theorem eX11_change_108 : decode cX11_change 108 = .ok (.aload_n 0, 1) := by decide +kernel
theorem eX11_change_109 : decode cX11_change 109 = .ok (.getfield 321, 3) := by decide +kernel
theorem eX11_change_112 : decode cX11_change 112 = .ok (.imul, 1) := by decide +kernel
theorem eX11_change_113 : decode cX11_change 113 = .ok (.iload 4, 2) := by decide +kernel
theorem eX11_change_115 : decode cX11_change 115 = .ok (.iadd, 1) := by decide +kernel
theorem eX11_change_116 : decode cX11_change 116 = .ok (.laload, 1) := by decide +kernel
theorem eX11_change_117 : decode cX11_change 117 = .ok (.lastore, 1) := by decide +kernel
theorem eX11_change_118 : decode cX11_change 118 = .ok (.aload_n 0, 1) := by decide +kernel
theorem eX11_change_119 : decode cX11_change 119 = .ok (.getfield 30, 3) := by decide +kernel
theorem eX11_change_122 : decode cX11_change 122 = .ok (.bipush 16, 2) := by decide +kernel
theorem eX11_change_124 : decode cX11_change 124 = .ok (.iload 4, 2) := by decide +kernel
theorem eX11_change_126 : decode cX11_change 126 = .ok (.iadd, 1) := by decide +kernel
theorem eX11_change_127 : decode cX11_change 127 = .ok (.aload_n 0, 1) := by decide +kernel
theorem eX11_change_128 : decode cX11_change 128 = .ok (.getfield 20, 3) := by decide +kernel
theorem eX11_change_131 : decode cX11_change 131 = .ok (.iconst 2, 1) := by decide +kernel
theorem eX11_change_132 : decode cX11_change 132 = .ok (.iaload, 1) := by decide +kernel
theorem eX11_change_133 : decode cX11_change 133 = .ok (.iastore, 1) := by decide +kernel
theorem eX11_change_134 : decode cX11_change 134 = .ok (.iconst 1, 1) := by decide +kernel
theorem eX11_change_135 : decode cX11_change 135 = .ok (.istore 5, 2) := by decide +kernel
theorem eX11_change_137 : decode cX11_change 137 = .ok (.aload_n 0, 1) := by decide +kernel
theorem eX11_change_138 : decode cX11_change 138 = .ok (.getfield 149, 3) := by decide +kernel
theorem eX11_change_141 : decode cX11_change 141 = .ok (.iconst 0, 1) := by decide +kernel
theorem eX11_change_142 : decode cX11_change 142 = .ok (.aload_n 0, 1) := by decide +kernel
theorem eX11_change_143 : decode cX11_change 143 = .ok (.getfield 30, 3) := by decide +kernel
theorem eX11_change_146 : decode cX11_change 146 = .ok (.bipush 8, 2) := by decide +kernel
theorem eX11_change_148 : decode cX11_change 148 = .ok (.aload_n 0, 1) := by decide +kernel
theorem eX11_change_149 : decode cX11_change 149 = .ok (.getfield 321, 3) := by decide +kernel
theorem eX11_change_152 : decode cX11_change 152 = .ok (.imul, 1) := by decide +kernel
theorem eX11_change_153 : decode cX11_change 153 = .ok (.iload 4, 2) := by decide +kernel
theorem eX11_change_155 : decode cX11_change 155 = .ok (.iadd, 1) := by decide +kernel
theorem eX11_change_156 : decode cX11_change 156 = .ok (.iaload, 1) := by decide +kernel
theorem eX11_change_157 : decode cX11_change 157 = .ok (.iastore, 1) := by decide +kernel
theorem eX11_change_158 : decode cX11_change 158 = .ok (.iload 5, 2) := by decide +kernel
theorem eX11_change_160 : decode cX11_change 160 = .ok (.ifCond .le 93, 3) := by decide +kernel
theorem eX11_change_163 : decode cX11_change 163 = .ok (.iinc 5 (-1), 3) := by decide +kernel
theorem eX11_change_166 : decode cX11_change 166 = .ok (.aload_n 0, 1) := by decide +kernel
theorem eX11_change_167 : decode cX11_change 167 = .ok (.getfield 149, 3) := by decide +kernel
theorem eX11_change_170 : decode cX11_change 170 = .ok (.iload 5, 2) := by decide +kernel
theorem eX11_change_172 : decode cX11_change 172 = .ok (.iaload, 1) := by decide +kernel
theorem eX11_change_173 : decode cX11_change 173 = .ok (.istore 6, 2) := by decide +kernel
theorem eX11_change_175 : decode cX11_change 175 = .ok (.aload_n 0, 1) := by decide +kernel
theorem eX11_change_176 : decode cX11_change 176 = .ok (.iload 6, 2) := by decide +kernel
theorem eX11_change_178 : decode cX11_change 178 = .ok (.invokevirtual 527, 3) := by decide +kernel
theorem eX11_change_181 : decode cX11_change 181 = .ok (.iload 6, 2) := by decide +kernel
theorem eX11_change_183 : decode cX11_change 183 = .ok (.iload_n 1, 1) := by decide +kernel
theorem eX11_change_184 : decode cX11_change 184 = .ok (.if_icmp .ne 13, 3) := by decide +kernel
theorem eX11_change_187 : decode cX11_change 187 = .ok (.iload_n 2, 1) := by decide +kernel
theorem eX11_change_188 : decode cX11_change 188 = .ok (.ifCond .le 9, 3) := by decide +kernel
theorem eX11_change_191 : decode cX11_change 191 = .ok (.aload_n 0, 1) := by decide +kernel
theorem eX11_change_192 : decode cX11_change 192 = .ok (.iload_n 2, 1) := by decide +kernel
theorem eX11_change_193 : decode cX11_change 193 = .ok (.iload_n 3, 1) := by decide +kernel
theorem eX11_change_194 : decode cX11_change 194 = .ok (.invokevirtual 530, 3) := by decide +kernel
theorem eX11_change_197 : decode cX11_change 197 = .ok (.aload_n 0, 1) := by decide +kernel
theorem eX11_change_198 : decode cX11_change 198 = .ok (.getfield 33, 3) := by decide +kernel
theorem eX11_change_201 : decode cX11_change 201 = .ok (.bipush 80, 2) := by decide +kernel
theorem eX11_change_203 : decode cX11_change 203 = .ok (.aload_n 0, 1) := by decide +kernel
theorem eX11_change_204 : decode cX11_change 204 = .ok (.getfield 146, 3) := by decide +kernel
theorem eX11_change_207 : decode cX11_change 207 = .ok (.iload 6, 2) := by decide +kernel
theorem eX11_change_209 : decode cX11_change 209 = .ok (.iaload, 1) := by decide +kernel
theorem eX11_change_210 : decode cX11_change 210 = .ok (.iadd, 1) := by decide +kernel
theorem eX11_change_211 : decode cX11_change 211 = .ok (.iaload, 1) := by decide +kernel
theorem eX11_change_212 : decode cX11_change 212 = .ok (.invokestatic 365, 3) := by decide +kernel
theorem eX11_change_215 : decode cX11_change 215 = .ok (.iconst 1, 1) := by decide +kernel
theorem eX11_change_216 : decode cX11_change 216 = .ok (.isub, 1) := by decide +kernel
theorem eX11_change_217 : decode cX11_change 217 = .ok (.istore 7, 2) := by decide +kernel
theorem eX11_change_219 : decode cX11_change 219 = .ok (.iload 7, 2) := by decide +kernel
theorem eX11_change_221 : decode cX11_change 221 = .ok (.ifCond .lt 29, 3) := by decide +kernel
theorem eX11_change_224 : decode cX11_change 224 = .ok (.aload_n 0, 1) := by decide +kernel
theorem eX11_change_225 : decode cX11_change 225 = .ok (.getfield 149, 3) := by decide +kernel
theorem eX11_change_228 : decode cX11_change 228 = .ok (.iload 5, 2) := by decide +kernel
theorem eX11_change_230 : decode cX11_change 230 = .ok (.aload_n 0, 1) := by decide +kernel
theorem eX11_change_231 : decode cX11_change 231 = .ok (.iload 6, 2) := by decide +kernel
theorem eX11_change_233 : decode cX11_change 233 = .ok (.iload 7, 2) := by decide +kernel
theorem eX11_change_235 : decode cX11_change 235 = .ok (.iload_n 1, 1) := by decide +kernel
theorem eX11_change_236 : decode cX11_change 236 = .ok (.iload_n 2, 1) := by decide +kernel
theorem eX11_change_237 : decode cX11_change 237 = .ok (.invokevirtual 533, 3) := by decide +kernel
theorem eX11_change_240 : decode cX11_change 240 = .ok (.iastore, 1) := by decide +kernel
theorem eX11_change_241 : decode cX11_change 241 = .ok (.iinc 5 1, 3) := by decide +kernel
theorem eX11_change_244 : decode cX11_change 244 = .ok (.iinc 7 (-1), 3) := by decide +kernel
theorem eX11_change_247 : decode cX11_change 247 = .ok (.goto (-28), 3) := by decide +kernel
theorem eX11_change_250 : decode cX11_change 250 = .ok (.goto (-92), 3) := by decide +kernel
theorem eX11_change_253 : decode cX11_change 253 = .ok (.iinc 4 1, 3) := by decide +kernel
theorem eX11_change_256 : decode cX11_change 256 = .ok (.goto (-177), 3) := by decide +kernel
theorem eX11_change_259 : decode cX11_change 259 = .ok (.iconst 0, 1) := by decide +kernel
theorem eX11_change_260 : decode cX11_change 260 = .ok (.istore 4, 2) := by decide +kernel
theorem eX11_change_262 : decode cX11_change 262 = .ok (.iload 4, 2) := by decide +kernel
theorem eX11_change_264 : decode cX11_change 264 = .ok (.aload_n 0, 1) := by decide +kernel
theorem eX11_change_265 : decode cX11_change 265 = .ok (.getfield 20, 3) := by decide +kernel
theorem eX11_change_268 : decode cX11_change 268 = .ok (.aload_n 0, 1) := by decide +kernel
theorem eX11_change_269 : decode cX11_change 269 = .ok (.getfield 321, 3) := by decide +kernel
theorem eX11_change_272 : decode cX11_change 272 = .ok (.iaload, 1) := by decide +kernel
theorem eX11_change_273 : decode cX11_change 273 = .ok (.if_icmp .ge 86, 3) := by decide +kernel
theorem eX11_change_276 : decode cX11_change 276 = .ok (.aload_n 0, 1) := by decide +kernel
theorem eX11_change_277 : decode cX11_change 277 = .ok (.getfield 146, 3) := by decide +kernel
theorem eX11_change_280 : decode cX11_change 280 = .ok (.iload 4, 2) := by decide +kernel
theorem eX11_change_282 : decode cX11_change 282 = .ok (.iaload, 1) := by decide +kernel
theorem eX11_change_283 : decode cX11_change 283 = .ok (.ifCond .lt 70, 3) := by decide +kernel
theorem eX11_change_286 : decode cX11_change 286 = .ok (.iconst 0, 1) := by decide +kernel
theorem eX11_change_287 : decode cX11_change 287 = .ok (.istore 5, 2) := by decide +kernel
theorem eX11_change_289 : decode cX11_change 289 = .ok (.iload 5, 2) := by decide +kernel
theorem eX11_change_291 : decode cX11_change 291 = .ok (.aload_n 0, 1) := by decide +kernel
theorem eX11_change_292 : decode cX11_change 292 = .ok (.getfield 33, 3) := by decide +kernel
theorem eX11_change_295 : decode cX11_change 295 = .ok (.bipush 80, 2) := by decide +kernel
theorem eX11_change_297 : decode cX11_change 297 = .ok (.aload_n 0, 1) := by decide +kernel
theorem eX11_change_298 : decode cX11_change 298 = .ok (.getfield 146, 3) := by decide +kernel
theorem eX11_change_301 : decode cX11_change 301 = .ok (.iload 4, 2) := by decide +kernel
theorem eX11_change_303 : decode cX11_change 303 = .ok (.iaload, 1) := by decide +kernel
theorem eX11_change_304 : decode cX11_change 304 = .ok (.iadd, 1) := by decide +kernel
theorem eX11_change_305 : decode cX11_change 305 = .ok (.iaload, 1) := by decide +kernel
theorem eX11_change_306 : decode cX11_change 306 = .ok (.invokestatic 365, 3) := by decide +kernel
theorem eX11_change_309 : decode cX11_change 309 = .ok (.if_icmp .ge 44, 3) := by decide +kernel
theorem eX11_change_312 : decode cX11_change 312 = .ok (.aload_n 0, 1) := by decide +kernel
theorem eX11_change_313 : decode cX11_change 313 = .ok (.getfield 51, 3) := by decide +kernel
theorem eX11_change_316 : decode cX11_change 316 = .ok (.iconst 3, 1) := by decide +kernel
theorem eX11_change_317 : decode cX11_change 317 = .ok (.bipush 80, 2) := by decide +kernel
theorem eX11_change_319 : decode cX11_change 319 = .ok (.aload_n 0, 1) := by decide +kernel
theorem eX11_change_320 : decode cX11_change 320 = .ok (.getfield 146, 3) := by decide +kernel
theorem eX11_change_323 : decode cX11_change 323 = .ok (.iload 4, 2) := by decide +kernel
theorem eX11_change_325 : decode cX11_change 325 = .ok (.iaload, 1) := by decide +kernel
theorem eX11_change_326 : decode cX11_change 326 = .ok (.iadd, 1) := by decide +kernel
theorem eX11_change_327 : decode cX11_change 327 = .ok (.imul, 1) := by decide +kernel
theorem eX11_change_328 : decode cX11_change 328 = .ok (.iload 5, 2) := by decide +kernel
theorem eX11_change_330 : decode cX11_change 330 = .ok (.iadd, 1) := by decide +kernel
theorem eX11_change_331 : decode cX11_change 331 = .ok (.aload_n 0, 1) := by decide +kernel
theorem eX11_change_332 : decode cX11_change 332 = .ok (.getfield 146, 3) := by decide +kernel
theorem eX11_change_335 : decode cX11_change 335 = .ok (.aload_n 0, 1) := by decide +kernel
theorem eX11_change_336 : decode cX11_change 336 = .ok (.iload 4, 2) := by decide +kernel
theorem eX11_change_338 : decode cX11_change 338 = .ok (.iload 5, 2) := by decide +kernel
theorem eX11_change_340 : decode cX11_change 340 = .ok (.iload_n 1, 1) := by decide +kernel
theorem eX11_change_341 : decode cX11_change 341 = .ok (.iload_n 2, 1) := by decide +kernel
theorem eX11_change_342 : decode cX11_change 342 = .ok (.invokevirtual 533, 3) := by decide +kernel
theorem eX11_change_345 : decode cX11_change 345 = .ok (.iaload, 1) := by decide +kernel
theorem eX11_change_346 : decode cX11_change 346 = .ok (.iastore, 1) := by decide +kernel
theorem eX11_change_347 : decode cX11_change 347 = .ok (.iinc 5 1, 3) := by decide +kernel
theorem eX11_change_350 : decode cX11_change 350 = .ok (.goto (-61), 3) := by decide +kernel
theorem eX11_change_353 : decode cX11_change 353 = .ok (.iinc 4 1, 3) := by decide +kernel
theorem eX11_change_356 : decode cX11_change 356 = .ok (.goto (-94), 3) := by decide +kernel
theorem eX11_change_359 : decode cX11_change 359 = .ok (.aload_n 0, 1) := by decide +kernel
theorem eX11_change_360 : decode cX11_change 360 = .ok (.iconst 2, 1) := by decide +kernel
theorem eX11_change_361 : decode cX11_change 361 = .ok (.invokevirtual 536, 3) := by decide +kernel
theorem eX11_change_364 : decode cX11_change 364 = .ok (.return_, 1) := by decide +kernel
def C_X11_change (s : ST) (p : Int) (q : Int) (u : Int) (Q : ST → Prop) : Prop := bx <| RA s → R32 p → R32 q → R32 u → q_met mX11_change (qs layM s) [.ref 139, .int (Int32.ofInt p), .int (Int32.ofInt q), .int (Int32.ofInt u)] (PV layM Q)
theorem C_X11_change.mono {s : ST} {p : Int} {q : Int} {u : Int} {Q Q' : ST → Prop} (h : C_X11_change s p q u Q) (hq : ∀ s, Q s → Q' s) : C_X11_change s p q u Q' := ⟨fun hA hrp hrq hru => q_met.mono (h.1 hA hrp hrq hru) (fun _ _ => PV.mono hq), trivial⟩
def K_X11_change_289 (s : ST) (a1 : Int) (a2 : Int) (a4 : Int) (a5 : Int) (Q : ST → Prop) : Prop := bx <| RA s → R32 a1 → R32 a2 → R32 a4 → R32 a5 → q_K mX11_change (qs layM s) 0 0 289 [(0, .ref 139), (1, .int (Int32.ofInt a1)), (2, .int (Int32.ofInt a2)), (4, .int (Int32.ofInt a4)), (5, .int (Int32.ofInt a5))] [] (q_fin mX11_change (PV layM Q))
def K_X11_change_262 (s : ST) (a1 : Int) (a2 : Int) (a4 : Int) (Q : ST → Prop) : Prop := bx <| RA s → R32 a1 → R32 a2 → R32 a4 → q_K mX11_change (qs layM s) 0 0 262 [(0, .ref 139), (1, .int (Int32.ofInt a1)), (2, .int (Int32.ofInt a2)), (4, .int (Int32.ofInt a4))] [] (q_fin mX11_change (PV layM Q))
def K_X11_change_219 (s : ST) (a1 : Int) (a2 : Int) (a3 : Int) (a4 : Int) (a5 : Int) (a6 : Int) (a7 : Int) (Q : ST → Prop) : Prop := bx <| RA s → R32 a1 → R32 a2 → R32 a3 → R32 a4 → R32 a5 → R32 a6 → R32 a7 → q_K mX11_change (qs layM s) 0 0 219 [(0, .ref 139), (1, .int (Int32.ofInt a1)), (2, .int (Int32.ofInt a2)), (3, .int (Int32.ofInt a3)), (4, .int (Int32.ofInt a4)), (5, .int (Int32.ofInt a5)), (6, .int (Int32.ofInt a6)), (7, .int (Int32.ofInt a7))] [] (q_fin mX11_change (PV layM Q))
def K_X11_change_197 (s : ST) (a1 : Int) (a2 : Int) (a3 : Int) (a4 : Int) (a5 : Int) (a6 : Int) (Q : ST → Prop) : Prop := bx <| RA s → R32 a1 → R32 a2 → R32 a3 → R32 a4 → R32 a5 → R32 a6 → q_K mX11_change (qs layM s) 0 0 197 [(0, .ref 139), (1, .int (Int32.ofInt a1)), (2, .int (Int32.ofInt a2)), (3, .int (Int32.ofInt a3)), (4, .int (Int32.ofInt a4)), (5, .int (Int32.ofInt a5)), (6, .int (Int32.ofInt a6))] [] (q_fin mX11_change (PV layM Q))
def K_X11_change_158 (s : ST) (a1 : Int) (a2 : Int) (a3 : Int) (a4 : Int) (a5 : Int) (Q : ST → Prop) : Prop := bx <| RA s → R32 a1 → R32 a2 → R32 a3 → R32 a4 → R32 a5 → q_K mX11_change (qs layM s) 0 0 158 [(0, .ref 139), (1, .int (Int32.ofInt a1)), (2, .int (Int32.ofInt a2)), (3, .int (Int32.ofInt a3)), (4, .int (Int32.ofInt a4)), (5, .int (Int32.ofInt a5))] [] (q_fin mX11_change (PV layM Q))
def K_X11_change_79 (s : ST) (a1 : Int) (a2 : Int) (a3 : Int) (a4 : Int) (Q : ST → Prop) : Prop := bx <| RA s → R32 a1 → R32 a2 → R32 a3 → R32 a4 → q_K mX11_change (qs layM s) 0 0 79 [(0, .ref 139), (1, .int (Int32.ofInt a1)), (2, .int (Int32.ofInt a2)), (3, .int (Int32.ofInt a3)), (4, .int (Int32.ofInt a4))] [] (q_fin mX11_change (PV layM Q))
def K_X11_change_38 (s : ST) (a1 : Int) (a2 : Int) (a3 : Int) (a4 : Int) (Q : ST → Prop) : Prop := bx <| RA s → R32 a1 → R32 a2 → R32 a3 → R32 a4 → q_K mX11_change (qs layM s) 0 0 38 [(0, .ref 139), (1, .int (Int32.ofInt a1)), (2, .int (Int32.ofInt a2)), (3, .int (Int32.ofInt a3)), (4, .int (Int32.ofInt a4))] [] (q_fin mX11_change (PV layM Q))
set_option maxRecDepth 20000 in
theorem s_X11_change_289 {s : ST} {a1 : Int} {a2 : Int} {a4 : Int} {a5 : Int} {Q : ST → Prop} (h : RA s → R32 a1 → R32 a2 → R32 a4 → R32 a5 → (((0 : Int) ≤ a4 ∧ a4 < 40) ∧ (R32 (80 + s.1 182 a4) ∧ (((0 : Int) ≤ (80 + s.1 182 a4) ∧ (80 + s.1 182 a4) < 240) ∧ (((F_X11_kidsOf s (s.1 146 (80 + s.1 182 a4))) ≤ a5 → (R32 (a4 + 1) ∧ K_X11_change_262 s a1 a2 (a4 + 1) Q)) ∧ (¬ (F_X11_kidsOf s (s.1 146 (80 + s.1 182 a4))) ≤ a5 → (R32 (3 * (80 + s.1 182 a4)) ∧ (R32 ((3 * (80 + s.1 182 a4)) + a5) ∧ (P_X11_kidBy s a4 a5 a1 a2 ∧ (((0 : Int) ≤ (F_X11_kidBy s a4 a5 a1 a2) ∧ (F_X11_kidBy s a4 a5 a1 a2) < 40) ∧ (((0 : Int) ≤ ((3 * (80 + s.1 182 a4)) + a5) ∧ ((3 * (80 + s.1 182 a4)) + a5) < 720) ∧ (R32 (a5 + 1) ∧ K_X11_change_289 (ui s 152 ((3 * (80 + s.1 182 a4)) + a5) (s.1 182 (F_X11_kidBy s a4 a5 a1 a2))) a1 a2 a4 (a5 + 1) Q)))))))))))) : K_X11_change_289 s a1 a2 a4 a5 Q := by
  refine ⟨?_, trivial⟩
  intro hA hra1 hra2 hra4 hra5
  have h := h hA hra1 hra2 hra4 hra5
  refine q_iload eX11_change_289 rfl ?_
  refine q_aload_n eX11_change_291 rfl ?_
  refine q_getR (c := 11) (n := 0) (k := 15) (a := 146) eX11_change_292 rfl (by decide) (by decide) fX11_33 rfl rfl ?_
  refine q_bi (v := Int32.ofInt 80) eX11_change_295 rfl ?_
  refine q_aload_n eX11_change_297 rfl ?_
  refine q_getR (c := 11) (n := 0) (k := 64) (a := 182) eX11_change_298 rfl (by decide) (by decide) fX11_146 rfl rfl ?_
  refine q_iload eX11_change_301 rfl ?_
  have f1 := h.1
  have h := h.2
  refine z_iald (n := 40) eX11_change_303 rfl (ofz hra4) f1 ?_
  refine q_topI (v := Int32.ofInt (s.1 182 a4)) rfl ?_
  refine z_iadd eX11_change_304 ?_
  have r2 := h.1
  have h := h.2
  have f3 := h.1
  have h := h.2
  refine z_iald (n := 240) eX11_change_305 rfl (ofz r2) f3 ?_
  refine q_topI (v := Int32.ofInt (s.1 146 (80 + s.1 182 a4))) rfl ?_
  refine q_S1 eX11_change_306 DX11_kidsOf lX11_365 rfl rfl rfl (p_X11_kidsOf hA (hA _ _)) ?_
  rintro _ _ ⟨r4, rfl, rfl⟩
  refine q_cz_ge (tgt := 353) (a := a5) (b := (F_X11_kidsOf s (s.1 146 (80 + s.1 182 a4)))) eX11_change_309 (by decide) (ofz hra5) (ofz r4) (fun c309 => ?_) (fun c309 => ?_)
  · have h := h.1 c309
    have r5 := h.1
    have h := h.2
    refine z_inc (m := 1) eX11_change_353 rfl (Nat.le_of_ble_eq_true rfl) rfl ?_
    refine q_goto (tgt := 262) eX11_change_356 (by decide) ?_
    exact q_subL rfl (h.1 hA hra1 hra2 r5)
  · have h := h.2 c309
    refine q_aload_n eX11_change_312 rfl ?_
    refine q_getR (c := 11) (n := 0) (k := 21) (a := 152) eX11_change_313 rfl (by decide) (by decide) fX11_51 rfl rfl ?_
    refine q_ic (v := Int32.ofInt 3) eX11_change_316 rfl ?_
    refine q_bi (v := Int32.ofInt 80) eX11_change_317 rfl ?_
    refine q_aload_n eX11_change_319 rfl ?_
    refine q_getR (c := 11) (n := 0) (k := 64) (a := 182) eX11_change_320 rfl (by decide) (by decide) fX11_146 rfl rfl ?_
    refine q_iload eX11_change_323 rfl ?_
    refine z_iald (n := 40) eX11_change_325 rfl (ofz hra4) f1 ?_
    refine q_topI (v := Int32.ofInt (s.1 182 a4)) rfl ?_
    refine z_iadd eX11_change_326 ?_
    refine z_imul eX11_change_327 ?_
    have r6 := h.1
    have h := h.2
    refine q_iload eX11_change_328 rfl ?_
    refine z_iadd eX11_change_330 ?_
    have r7 := h.1
    have h := h.2
    refine q_aload_n eX11_change_331 rfl ?_
    refine q_getR (c := 11) (n := 0) (k := 64) (a := 182) eX11_change_332 rfl (by decide) (by decide) fX11_146 rfl rfl ?_
    refine q_aload_n eX11_change_335 rfl ?_
    refine q_iload eX11_change_336 rfl ?_
    refine q_iload eX11_change_338 rfl ?_
    refine q_iload_n eX11_change_340 rfl ?_
    refine q_iload_n eX11_change_341 rfl ?_
    have f9 := h.1
    have h := h.2
    refine q_V4 (ci := 11) (n := 0) eX11_change_342 DX11_kidBy lX11_533 rfl (by decide) rfl rfl rfl rfl (p_X11_kidBy f9 hA hra4 hra5 hra1 hra2) ?_
    rintro _ _ ⟨r8, rfl, rfl⟩
    have f10 := h.1
    have h := h.2
    refine z_iald (n := 40) eX11_change_345 rfl (ofz r8) f10 ?_
    refine q_topI (v := Int32.ofInt (s.1 182 (F_X11_kidBy s a4 a5 a1 a2))) rfl ?_
    have f11 := h.1
    have h := h.2
    refine z_iast (n := 720) eX11_change_346 rfl (ofz r7) f11  ?_
    have r12 := h.1
    have h := h.2
    refine z_inc (m := 1) eX11_change_347 rfl (Nat.le_of_ble_eq_true rfl) rfl ?_
    refine q_goto (tgt := 289) eX11_change_350 (by decide) ?_
    exact q_subL rfl (h.1 (ra_ui hA (hA _ _)) hra1 hra2 hra4 r12)
set_option maxRecDepth 20000 in
theorem s_X11_change_262 {s : ST} {a1 : Int} {a2 : Int} {a4 : Int} {Q : ST → Prop} (h : RA s → R32 a1 → R32 a2 → R32 a4 → (((0 : Int) ≤ s.1 139 28 ∧ s.1 139 28 < 6) ∧ ((s.1 142 (s.1 139 28) ≤ a4 → (C_X11_layEnds s 2 (fun s2 => Q s2))) ∧ (¬ s.1 142 (s.1 139 28) ≤ a4 → (((0 : Int) ≤ a4 ∧ a4 < 40) ∧ ((s.1 182 a4 < 0 → (R32 (a4 + 1) ∧ K_X11_change_262 s a1 a2 (a4 + 1) Q)) ∧ (¬ s.1 182 a4 < 0 → K_X11_change_289 s a1 a2 a4 0 Q))))))) : K_X11_change_262 s a1 a2 a4 Q := by
  refine ⟨?_, trivial⟩
  intro hA hra1 hra2 hra4
  have h := h hA hra1 hra2 hra4
  refine q_iload eX11_change_262 rfl ?_
  refine q_aload_n eX11_change_264 rfl ?_
  refine q_getR (c := 11) (n := 0) (k := 11) (a := 142) eX11_change_265 rfl (by decide) (by decide) fX11_20 rfl rfl ?_
  refine q_aload_n eX11_change_268 rfl ?_
  refine q_getf (c := 11) (n := 0) (k := 28) (v := .int (Int32.ofInt (s.1 139 28))) eX11_change_269 rfl (by decide) (by decide) fX11_321 rfl ?_
  have f1 := h.1
  have h := h.2
  refine z_iald (n := 6) eX11_change_272 rfl (ofz (hA _ _)) f1 ?_
  refine q_topI (v := Int32.ofInt (s.1 142 (s.1 139 28))) rfl ?_
  refine q_cz_ge (tgt := 359) (a := a4) (b := s.1 142 (s.1 139 28)) eX11_change_273 (by decide) (ofz hra4) (ofz (hA _ _)) (fun c273 => ?_) (fun c273 => ?_)
  · have h := h.1 c273
    refine q_aload_n eX11_change_359 rfl ?_
    refine q_ic (v := Int32.ofInt 2) eX11_change_360 rfl ?_
    refine q_V1 (ci := 11) (n := 0) eX11_change_361 DX11_layEnds lX11_536 rfl (by decide) rfl rfl rfl rfl (h.1 hA (r32l rfl)) ?_
    rintro _ _ ⟨s2, rfl, hA2, rfl, h⟩
    exact q_ret eX11_change_364 rfl ⟨_, rfl, hA2, rfl, h⟩
  · have h := h.2 c273
    refine q_aload_n eX11_change_276 rfl ?_
    refine q_getR (c := 11) (n := 0) (k := 64) (a := 182) eX11_change_277 rfl (by decide) (by decide) fX11_146 rfl rfl ?_
    refine q_iload eX11_change_280 rfl ?_
    have f3 := h.1
    have h := h.2
    refine z_iald (n := 40) eX11_change_282 rfl (ofz hra4) f3 ?_
    refine q_topI (v := Int32.ofInt (s.1 182 a4)) rfl ?_
    refine q_iz_lt (tgt := 353) (a := s.1 182 a4) eX11_change_283 (by decide) (ofz (hA _ _)) (fun c283 => ?_) (fun c283 => ?_)
    · have h := h.1 c283
      have r4 := h.1
      have h := h.2
      refine z_inc (m := 1) eX11_change_353 rfl (Nat.le_of_ble_eq_true rfl) rfl ?_
      refine q_goto (tgt := 262) eX11_change_356 (by decide) ?_
      exact q_subL rfl (h.1 hA hra1 hra2 r4)
    · have h := h.2 c283
      refine q_ic (v := Int32.ofInt 0) eX11_change_286 rfl ?_
      refine q_istore eX11_change_287 (Nat.le_of_ble_eq_true rfl) ?_
      exact q_subL rfl (h.1 hA hra1 hra2 hra4 (r32l rfl))
set_option maxRecDepth 20000 in
theorem s_X11_change_219 {s : ST} {a1 : Int} {a2 : Int} {a3 : Int} {a4 : Int} {a5 : Int} {a6 : Int} {a7 : Int} {Q : ST → Prop} (h : RA s → R32 a1 → R32 a2 → R32 a3 → R32 a4 → R32 a5 → R32 a6 → R32 a7 → ((a7 < 0 → K_X11_change_158 s a1 a2 a3 a4 a5 Q) ∧ (¬ a7 < 0 → (P_X11_kidBy s a6 a7 a1 a2 ∧ (((0 : Int) ≤ a5 ∧ a5 < 42) ∧ (R32 (a5 + 1) ∧ (R32 (a7 - 1) ∧ K_X11_change_219 (ui s 183 a5 (F_X11_kidBy s a6 a7 a1 a2)) a1 a2 a3 a4 (a5 + 1) a6 (a7 - 1) Q))))))) : K_X11_change_219 s a1 a2 a3 a4 a5 a6 a7 Q := by
  refine ⟨?_, trivial⟩
  intro hA hra1 hra2 hra3 hra4 hra5 hra6 hra7
  have h := h hA hra1 hra2 hra3 hra4 hra5 hra6 hra7
  refine q_iload eX11_change_219 rfl ?_
  refine q_iz_lt (tgt := 250) (a := a7) eX11_change_221 (by decide) (ofz hra7) (fun c221 => ?_) (fun c221 => ?_)
  · have h := h.1 c221
    refine q_goto (tgt := 158) eX11_change_250 (by decide) ?_
    exact q_subL rfl (h.1 hA hra1 hra2 hra3 hra4 hra5)
  · have h := h.2 c221
    refine q_aload_n eX11_change_224 rfl ?_
    refine q_getR (c := 11) (n := 0) (k := 65) (a := 183) eX11_change_225 rfl (by decide) (by decide) fX11_149 rfl rfl ?_
    refine q_iload eX11_change_228 rfl ?_
    refine q_aload_n eX11_change_230 rfl ?_
    refine q_iload eX11_change_231 rfl ?_
    refine q_iload eX11_change_233 rfl ?_
    refine q_iload_n eX11_change_235 rfl ?_
    refine q_iload_n eX11_change_236 rfl ?_
    have f2 := h.1
    have h := h.2
    refine q_V4 (ci := 11) (n := 0) eX11_change_237 DX11_kidBy lX11_533 rfl (by decide) rfl rfl rfl rfl (p_X11_kidBy f2 hA hra6 hra7 hra1 hra2) ?_
    rintro _ _ ⟨r1, rfl, rfl⟩
    have f3 := h.1
    have h := h.2
    refine z_iast (n := 42) eX11_change_240 rfl (ofz hra5) f3  ?_
    have r4 := h.1
    have h := h.2
    refine z_inc (m := 1) eX11_change_241 rfl (Nat.le_of_ble_eq_true rfl) rfl ?_
    have r5 := h.1
    have h := h.2
    refine z_incN (m := 1) eX11_change_244 rfl (Nat.le_of_ble_eq_true rfl) rfl ?_
    refine q_goto (tgt := 219) eX11_change_247 (by decide) ?_
    exact q_subL rfl (h.1 (ra_ui hA r1) hra1 hra2 hra3 hra4 r4 hra6 r5)
set_option maxRecDepth 20000 in
theorem s_X11_change_197 {s : ST} {a1 : Int} {a2 : Int} {a3 : Int} {a4 : Int} {a5 : Int} {a6 : Int} {Q : ST → Prop} (h : RA s → R32 a1 → R32 a2 → R32 a3 → R32 a4 → R32 a5 → R32 a6 → (((0 : Int) ≤ a6 ∧ a6 < 40) ∧ (R32 (80 + s.1 182 a6) ∧ (((0 : Int) ≤ (80 + s.1 182 a6) ∧ (80 + s.1 182 a6) < 240) ∧ (R32 ((F_X11_kidsOf s (s.1 146 (80 + s.1 182 a6))) - 1) ∧ K_X11_change_219 s a1 a2 a3 a4 a5 a6 ((F_X11_kidsOf s (s.1 146 (80 + s.1 182 a6))) - 1) Q))))) : K_X11_change_197 s a1 a2 a3 a4 a5 a6 Q := by
  refine ⟨?_, trivial⟩
  intro hA hra1 hra2 hra3 hra4 hra5 hra6
  have h := h hA hra1 hra2 hra3 hra4 hra5 hra6
  refine q_aload_n eX11_change_197 rfl ?_
  refine q_getR (c := 11) (n := 0) (k := 15) (a := 146) eX11_change_198 rfl (by decide) (by decide) fX11_33 rfl rfl ?_
  refine q_bi (v := Int32.ofInt 80) eX11_change_201 rfl ?_
  refine q_aload_n eX11_change_203 rfl ?_
  refine q_getR (c := 11) (n := 0) (k := 64) (a := 182) eX11_change_204 rfl (by decide) (by decide) fX11_146 rfl rfl ?_
  refine q_iload eX11_change_207 rfl ?_
  have f1 := h.1
  have h := h.2
  refine z_iald (n := 40) eX11_change_209 rfl (ofz hra6) f1 ?_
  refine q_topI (v := Int32.ofInt (s.1 182 a6)) rfl ?_
  refine z_iadd eX11_change_210 ?_
  have r2 := h.1
  have h := h.2
  have f3 := h.1
  have h := h.2
  refine z_iald (n := 240) eX11_change_211 rfl (ofz r2) f3 ?_
  refine q_topI (v := Int32.ofInt (s.1 146 (80 + s.1 182 a6))) rfl ?_
  refine q_S1 eX11_change_212 DX11_kidsOf lX11_365 rfl rfl rfl (p_X11_kidsOf hA (hA _ _)) ?_
  rintro _ _ ⟨r4, rfl, rfl⟩
  refine q_ic (v := Int32.ofInt 1) eX11_change_215 rfl ?_
  refine z_isub eX11_change_216 ?_
  have r5 := h.1
  have h := h.2
  refine q_istore eX11_change_217 (Nat.le_of_ble_eq_true rfl) ?_
  exact q_subL rfl (h.1 hA hra1 hra2 hra3 hra4 hra5 hra6 r5)
set_option maxRecDepth 20000 in
theorem s_X11_change_158 {s : ST} {a1 : Int} {a2 : Int} {a3 : Int} {a4 : Int} {a5 : Int} {Q : ST → Prop} (h : RA s → R32 a1 → R32 a2 → R32 a3 → R32 a4 → R32 a5 → ((a5 ≤ 0 → (R32 (a4 + 1) ∧ K_X11_change_79 s a1 a2 a3 (a4 + 1) Q)) ∧ (¬ a5 ≤ 0 → (R32 (a5 - 1) ∧ (((0 : Int) ≤ (a5 - 1) ∧ (a5 - 1) < 42) ∧ (C_X11_takes s (s.1 183 (a5 - 1)) (fun s4 => ((¬ s.1 183 (a5 - 1) = a1 → K_X11_change_197 s4 a1 a2 a3 a4 (a5 - 1) (s.1 183 (a5 - 1)) Q) ∧ (s.1 183 (a5 - 1) = a1 → ((a2 ≤ 0 → K_X11_change_197 s4 a1 a2 a3 a4 (a5 - 1) (s.1 183 (a5 - 1)) Q) ∧ (¬ a2 ≤ 0 → (C_X11_changed s4 a2 a3 (fun s5 => K_X11_change_197 s5 a1 a2 a3 a4 (a5 - 1) (s.1 183 (a5 - 1)) Q))))))))))))) : K_X11_change_158 s a1 a2 a3 a4 a5 Q := by
  refine ⟨?_, trivial⟩
  intro hA hra1 hra2 hra3 hra4 hra5
  have h := h hA hra1 hra2 hra3 hra4 hra5
  refine q_iload eX11_change_158 rfl ?_
  refine q_iz_le (tgt := 253) (a := a5) eX11_change_160 (by decide) (ofz hra5) (fun c160 => ?_) (fun c160 => ?_)
  · have h := h.1 c160
    have r1 := h.1
    have h := h.2
    refine z_inc (m := 1) eX11_change_253 rfl (Nat.le_of_ble_eq_true rfl) rfl ?_
    refine q_goto (tgt := 79) eX11_change_256 (by decide) ?_
    exact q_subL rfl (h.1 hA hra1 hra2 hra3 r1)
  · have h := h.2 c160
    have r2 := h.1
    have h := h.2
    refine z_incN (m := 1) eX11_change_163 rfl (Nat.le_of_ble_eq_true rfl) rfl ?_
    refine q_aload_n eX11_change_166 rfl ?_
    refine q_getR (c := 11) (n := 0) (k := 65) (a := 183) eX11_change_167 rfl (by decide) (by decide) fX11_149 rfl rfl ?_
    refine q_iload eX11_change_170 rfl ?_
    have f3 := h.1
    have h := h.2
    refine z_iald (n := 42) eX11_change_172 rfl (ofz r2) f3 ?_
    refine q_topI (v := Int32.ofInt (s.1 183 (a5 - 1))) rfl ?_
    refine q_istore eX11_change_173 (Nat.le_of_ble_eq_true rfl) ?_
    refine q_aload_n eX11_change_175 rfl ?_
    refine q_iload eX11_change_176 rfl ?_
    refine q_V1 (ci := 11) (n := 0) eX11_change_178 DX11_takes lX11_527 rfl (by decide) rfl rfl rfl rfl (h.1 hA (hA _ _)) ?_
    rintro _ _ ⟨s4, rfl, hA4, rfl, h⟩
    refine q_iload eX11_change_181 rfl ?_
    refine q_iload_n eX11_change_183 rfl ?_
    refine q_cz_ne (tgt := 197) (a := s.1 183 (a5 - 1)) (b := a1) eX11_change_184 (by decide) (ofz (hA _ _)) (ofz hra1) (fun c184 => ?_) (fun c184 => ?_)
    · have h := h.1 c184
      exact q_subL rfl (h.1 hA4 hra1 hra2 hra3 hra4 r2 (hA _ _))
    · have h := h.2 c184
      refine q_iload_n eX11_change_187 rfl ?_
      refine q_iz_le (tgt := 197) (a := a2) eX11_change_188 (by decide) (ofz hra2) (fun c188 => ?_) (fun c188 => ?_)
      · have h := h.1 c188
        exact q_subL rfl (h.1 hA4 hra1 hra2 hra3 hra4 r2 (hA _ _))
      · have h := h.2 c188
        refine q_aload_n eX11_change_191 rfl ?_
        refine q_iload_n eX11_change_192 rfl ?_
        refine q_iload_n eX11_change_193 rfl ?_
        refine q_V2 (ci := 11) (n := 0) eX11_change_194 DX11_changed lX11_530 rfl (by decide) rfl rfl rfl rfl (h.1 hA4 hra2 hra3) ?_
        rintro _ _ ⟨s5, rfl, hA5, rfl, h⟩
        exact q_subL rfl (h.1 hA5 hra1 hra2 hra3 hra4 r2 (hA _ _))
set_option maxRecDepth 20000 in
theorem s_X11_change_79 {s : ST} {a1 : Int} {a2 : Int} {a3 : Int} {a4 : Int} {Q : ST → Prop} (h : RA s → R32 a1 → R32 a2 → R32 a3 → R32 a4 → (((0 : Int) ≤ s.1 139 28 ∧ s.1 139 28 < 6) ∧ ((s.1 143 (s.1 139 28) ≤ a4 → K_X11_change_262 s a1 a2 0 Q) ∧ (¬ s.1 143 (s.1 139 28) ≤ a4 → (R32 (16 + a4) ∧ (R32 (8 * s.1 139 28) ∧ (R32 ((8 * s.1 139 28) + a4) ∧ (((0 : Int) ≤ ((8 * s.1 139 28) + a4) ∧ ((8 * s.1 139 28) + a4) < 48) ∧ (((0 : Int) ≤ (16 + a4) ∧ (16 + a4) < 48) ∧ (((0 : Int) ≤ (2 : Int) ∧ (2 : Int) < 6) ∧ (((0 : Int) ≤ (0 : Int) ∧ (0 : Int) < 42) ∧ K_X11_change_158 (ui (ui (uj s 157 (16 + a4) (s.2 157 ((8 * s.1 139 28) + a4))) 145 (16 + a4) (s.1 142 2)) 183 0 ((ui (uj s 157 (16 + a4) (s.2 157 ((8 * s.1 139 28) + a4))) 145 (16 + a4) (s.1 142 2)).1 145 ((8 * s.1 139 28) + a4))) a1 a2 a3 a4 1 Q))))))))))) : K_X11_change_79 s a1 a2 a3 a4 Q := by
  refine ⟨?_, trivial⟩
  intro hA hra1 hra2 hra3 hra4
  have h := h hA hra1 hra2 hra3 hra4
  refine q_iload eX11_change_79 rfl ?_
  refine q_aload_n eX11_change_81 rfl ?_
  refine q_getR (c := 11) (n := 0) (k := 12) (a := 143) eX11_change_82 rfl (by decide) (by decide) fX11_24 rfl rfl ?_
  refine q_aload_n eX11_change_85 rfl ?_
  refine q_getf (c := 11) (n := 0) (k := 28) (v := .int (Int32.ofInt (s.1 139 28))) eX11_change_86 rfl (by decide) (by decide) fX11_321 rfl ?_
  have f1 := h.1
  have h := h.2
  refine z_iald (n := 6) eX11_change_89 rfl (ofz (hA _ _)) f1 ?_
  refine q_topI (v := Int32.ofInt (s.1 143 (s.1 139 28))) rfl ?_
  refine q_cz_ge (tgt := 259) (a := a4) (b := s.1 143 (s.1 139 28)) eX11_change_90 (by decide) (ofz hra4) (ofz (hA _ _)) (fun c90 => ?_) (fun c90 => ?_)
  · have h := h.1 c90
    refine q_ic (v := Int32.ofInt 0) eX11_change_259 rfl ?_
    refine q_istore eX11_change_260 (Nat.le_of_ble_eq_true rfl) ?_
    exact q_subL rfl (h.1 hA hra1 hra2 (r32l rfl))
  · have h := h.2 c90
    refine q_aload_n eX11_change_93 rfl ?_
    refine q_getR (c := 11) (n := 0) (k := 26) (a := 157) eX11_change_94 rfl (by decide) (by decide) fX11_66 rfl rfl ?_
    refine q_bi (v := Int32.ofInt 16) eX11_change_97 rfl ?_
    refine q_iload eX11_change_99 rfl ?_
    refine z_iadd eX11_change_101 ?_
    have r2 := h.1
    have h := h.2
    refine q_aload_n eX11_change_102 rfl ?_
    refine q_getR (c := 11) (n := 0) (k := 26) (a := 157) eX11_change_103 rfl (by decide) (by decide) fX11_66 rfl rfl ?_
    refine q_bi (v := Int32.ofInt 8) eX11_change_106 rfl ?_
    refine q_aload_n eX11_change_108 rfl ?_
    refine q_getf (c := 11) (n := 0) (k := 28) (v := .int (Int32.ofInt (s.1 139 28))) eX11_change_109 rfl (by decide) (by decide) fX11_321 rfl ?_
    refine z_imul eX11_change_112 ?_
    have r3 := h.1
    have h := h.2
    refine q_iload eX11_change_113 rfl ?_
    refine z_iadd eX11_change_115 ?_
    have r4 := h.1
    have h := h.2
    have f5 := h.1
    have h := h.2
    refine z_lald (n := 48) eX11_change_116 rfl (ofz r4) f5 ?_
    refine q_topL (v := s.2 157 ((8 * s.1 139 28) + a4)) rfl ?_
    have f6 := h.1
    have h := h.2
    refine z_last (n := 48) eX11_change_117 rfl (ofz r2) f6  ?_
    refine q_aload_n eX11_change_118 rfl ?_
    refine q_getR (c := 11) (n := 0) (k := 14) (a := 145) eX11_change_119 rfl (by decide) (by decide) fX11_30 rfl rfl ?_
    refine q_bi (v := Int32.ofInt 16) eX11_change_122 rfl ?_
    refine q_iload eX11_change_124 rfl ?_
    refine z_iadd eX11_change_126 ?_
    refine q_aload_n eX11_change_127 rfl ?_
    refine q_getR (c := 11) (n := 0) (k := 11) (a := 142) eX11_change_128 rfl (by decide) (by decide) fX11_20 rfl rfl ?_
    refine q_ic (v := Int32.ofInt 2) eX11_change_131 rfl ?_
    have f7 := h.1
    have h := h.2
    refine z_iald (n := 6) eX11_change_132 rfl (ofz (r32l rfl)) f7 ?_
    refine q_topI (v := Int32.ofInt (s.1 142 2)) rfl ?_
    refine z_iast (n := 48) eX11_change_133 rfl (ofz r2) f6  ?_
    refine q_ic (v := Int32.ofInt 1) eX11_change_134 rfl ?_
    refine q_istore eX11_change_135 (Nat.le_of_ble_eq_true rfl) ?_
    refine q_aload_n eX11_change_137 rfl ?_
    refine q_getR (c := 11) (n := 0) (k := 65) (a := 183) eX11_change_138 rfl (by decide) (by decide) fX11_149 rfl rfl ?_
    refine q_ic (v := Int32.ofInt 0) eX11_change_141 rfl ?_
    refine q_aload_n eX11_change_142 rfl ?_
    refine q_getR (c := 11) (n := 0) (k := 14) (a := 145) eX11_change_143 rfl (by decide) (by decide) fX11_30 rfl rfl ?_
    refine q_bi (v := Int32.ofInt 8) eX11_change_146 rfl ?_
    refine q_aload_n eX11_change_148 rfl ?_
    refine q_getf (c := 11) (n := 0) (k := 28) (v := .int (Int32.ofInt (s.1 139 28))) eX11_change_149 rfl (by decide) (by decide) fX11_321 rfl ?_
    refine z_imul eX11_change_152 ?_
    refine q_iload eX11_change_153 rfl ?_
    refine z_iadd eX11_change_155 ?_
    refine z_iald (n := 48) eX11_change_156 rfl (ofz r4) f5 ?_
    refine q_topI (v := Int32.ofInt ((ui (uj s 157 (16 + a4) (s.2 157 ((8 * s.1 139 28) + a4))) 145 (16 + a4) (s.1 142 2)).1 145 ((8 * s.1 139 28) + a4))) rfl ?_
    have f8 := h.1
    have h := h.2
    refine z_iast (n := 42) eX11_change_157 rfl (ofz (r32l rfl)) f8  ?_
    exact q_subL rfl (h.1 (ra_ui (ra_ui (ra_uj hA) (hA _ _)) ((ra_ui (ra_uj hA) (hA _ _)) _ _)) hra1 hra2 hra3 hra4 (r32l rfl))
set_option maxRecDepth 20000 in
theorem s_X11_change_38 {s : ST} {a1 : Int} {a2 : Int} {a3 : Int} {a4 : Int} {Q : ST → Prop} (h : RA s → R32 a1 → R32 a2 → R32 a3 → R32 a4 → ((20 ≤ a4 → K_X11_change_79 s a1 a2 a3 0 Q) ∧ (¬ 20 ≤ a4 → (R32 (40 + a4) ∧ (R32 (20 * s.1 139 28) ∧ (R32 ((20 * s.1 139 28) + a4) ∧ (((0 : Int) ≤ ((20 * s.1 139 28) + a4) ∧ ((20 * s.1 139 28) + a4) < 120) ∧ (((0 : Int) ≤ (40 + a4) ∧ (40 + a4) < 120) ∧ (R32 (a4 + 1) ∧ K_X11_change_38 (ui s 156 (40 + a4) (s.1 156 ((20 * s.1 139 28) + a4))) a1 a2 a3 (a4 + 1) Q))))))))) : K_X11_change_38 s a1 a2 a3 a4 Q := by
  refine ⟨?_, trivial⟩
  intro hA hra1 hra2 hra3 hra4
  have h := h hA hra1 hra2 hra3 hra4
  refine q_iload eX11_change_38 rfl ?_
  refine q_bi (v := Int32.ofInt 20) eX11_change_40 rfl ?_
  refine q_cz_ge (tgt := 76) (a := a4) (b := 20) eX11_change_42 (by decide) (ofz hra4) (ofz (r32l rfl)) (fun c42 => ?_) (fun c42 => ?_)
  · have h := h.1 c42
    refine q_ic (v := Int32.ofInt 0) eX11_change_76 rfl ?_
    refine q_istore eX11_change_77 (Nat.le_of_ble_eq_true rfl) ?_
    exact q_subL rfl (h.1 hA hra1 hra2 hra3 (r32l rfl))
  · have h := h.2 c42
    refine q_aload_n eX11_change_45 rfl ?_
    refine q_getR (c := 11) (n := 0) (k := 25) (a := 156) eX11_change_46 rfl (by decide) (by decide) fX11_63 rfl rfl ?_
    refine q_bi (v := Int32.ofInt 40) eX11_change_49 rfl ?_
    refine q_iload eX11_change_51 rfl ?_
    refine z_iadd eX11_change_53 ?_
    have r1 := h.1
    have h := h.2
    refine q_aload_n eX11_change_54 rfl ?_
    refine q_getR (c := 11) (n := 0) (k := 25) (a := 156) eX11_change_55 rfl (by decide) (by decide) fX11_63 rfl rfl ?_
    refine q_bi (v := Int32.ofInt 20) eX11_change_58 rfl ?_
    refine q_aload_n eX11_change_60 rfl ?_
    refine q_getf (c := 11) (n := 0) (k := 28) (v := .int (Int32.ofInt (s.1 139 28))) eX11_change_61 rfl (by decide) (by decide) fX11_321 rfl ?_
    refine z_imul eX11_change_64 ?_
    have r2 := h.1
    have h := h.2
    refine q_iload eX11_change_65 rfl ?_
    refine z_iadd eX11_change_67 ?_
    have r3 := h.1
    have h := h.2
    have f4 := h.1
    have h := h.2
    refine z_iald (n := 120) eX11_change_68 rfl (ofz r3) f4 ?_
    refine q_topI (v := Int32.ofInt (s.1 156 ((20 * s.1 139 28) + a4))) rfl ?_
    have f5 := h.1
    have h := h.2
    refine z_iast (n := 120) eX11_change_69 rfl (ofz r1) f5  ?_
    have r6 := h.1
    have h := h.2
    refine z_inc (m := 1) eX11_change_70 rfl (Nat.le_of_ble_eq_true rfl) rfl ?_
    refine q_goto (tgt := 38) eX11_change_73 (by decide) ?_
    exact q_subL rfl (h.1 (ra_ui hA (hA _ _)) hra1 hra2 hra3 r6)
set_option maxRecDepth 20000 in
theorem s_X11_change {s : ST} {p : Int} {q : Int} {u : Int} {Q : ST → Prop} (h : RA s → R32 p → R32 q → R32 u → (C_X11_clearBank s 2 (fun s1 => (((0 : Int) ≤ s1.1 139 28 ∧ s1.1 139 28 < 6) ∧ (((0 : Int) ≤ (2 : Int) ∧ (2 : Int) < 6) ∧ K_X11_change_38 (ui (ui s1 143 2 (s1.1 143 (s1.1 139 28))) 144 2 (s1.1 144 (s1.1 139 28))) p q u 0 Q))))) : C_X11_change s p q u Q := by
  refine ⟨?_, trivial⟩
  intro hA hrp hrq hru
  have h := h hA hrp hrq hru
  refine q_enter (by decide) (Nat.le_of_ble_eq_true rfl) ?_
  refine q_aload_n eX11_change_0 rfl ?_
  refine q_ic (v := Int32.ofInt 2) eX11_change_1 rfl ?_
  refine q_V1 (ci := 11) (n := 0) eX11_change_2 DX11_clearBank lX11_212 rfl (by decide) rfl rfl rfl rfl (h.1 hA (r32l rfl)) ?_
  rintro _ _ ⟨s1, rfl, hA1, rfl, h⟩
  refine q_aload_n eX11_change_5 rfl ?_
  refine q_getR (c := 11) (n := 0) (k := 12) (a := 143) eX11_change_6 rfl (by decide) (by decide) fX11_24 rfl rfl ?_
  refine q_ic (v := Int32.ofInt 2) eX11_change_9 rfl ?_
  refine q_aload_n eX11_change_10 rfl ?_
  refine q_getR (c := 11) (n := 0) (k := 12) (a := 143) eX11_change_11 rfl (by decide) (by decide) fX11_24 rfl rfl ?_
  refine q_aload_n eX11_change_14 rfl ?_
  refine q_getf (c := 11) (n := 0) (k := 28) (v := .int (Int32.ofInt (s1.1 139 28))) eX11_change_15 rfl (by decide) (by decide) fX11_321 rfl ?_
  have f2 := h.1
  have h := h.2
  refine z_iald (n := 6) eX11_change_18 rfl (ofz (hA1 _ _)) f2 ?_
  refine q_topI (v := Int32.ofInt (s1.1 143 (s1.1 139 28))) rfl ?_
  have f3 := h.1
  have h := h.2
  refine z_iast (n := 6) eX11_change_19 rfl (ofz (r32l rfl)) f3  ?_
  refine q_aload_n eX11_change_20 rfl ?_
  refine q_getR (c := 11) (n := 0) (k := 13) (a := 144) eX11_change_21 rfl (by decide) (by decide) fX11_27 rfl rfl ?_
  refine q_ic (v := Int32.ofInt 2) eX11_change_24 rfl ?_
  refine q_aload_n eX11_change_25 rfl ?_
  refine q_getR (c := 11) (n := 0) (k := 13) (a := 144) eX11_change_26 rfl (by decide) (by decide) fX11_27 rfl rfl ?_
  refine q_aload_n eX11_change_29 rfl ?_
  refine q_getf (c := 11) (n := 0) (k := 28) (v := .int (Int32.ofInt (s1.1 139 28))) eX11_change_30 rfl (by decide) (by decide) fX11_321 rfl ?_
  refine z_iald (n := 6) eX11_change_33 rfl (ofz (hA1 _ _)) f2 ?_
  refine q_topI (v := Int32.ofInt (s1.1 144 (s1.1 139 28))) rfl ?_
  refine z_iast (n := 6) eX11_change_34 rfl (ofz (r32l rfl)) f3  ?_
  refine q_ic (v := Int32.ofInt 0) eX11_change_35 rfl ?_
  refine q_istore eX11_change_36 (Nat.le_of_ble_eq_true rfl) ?_
  exact q_subL rfl (h.1 (ra_ui (ra_ui hA1 (hA1 _ _)) (hA1 _ _)) hrp hrq hru (r32l rfl))
theorem eX11_isHint_0 : decode cX11_isHint 0 = .ok (.iconst 0, 1) := by decide +kernel
theorem eX11_isHint_1 : decode cX11_isHint 1 = .ok (.istore 4, 2) := by decide +kernel
theorem eX11_isHint_3 : decode cX11_isHint 3 = .ok (.iload 4, 2) := by decide +kernel
theorem eX11_isHint_5 : decode cX11_isHint 5 = .ok (.bipush 40, 2) := by decide +kernel
theorem eX11_isHint_7 : decode cX11_isHint 7 = .ok (.if_icmp .ge 17, 3) := by decide +kernel
theorem eX11_isHint_10 : decode cX11_isHint 10 = .ok (.aload_n 0, 1) := by decide +kernel
theorem eX11_isHint_11 : decode cX11_isHint 11 = .ok (.getfield 146, 3) := by decide +kernel
theorem eX11_isHint_14 : decode cX11_isHint 14 = .ok (.iload 4, 2) := by decide +kernel
theorem eX11_isHint_16 : decode cX11_isHint 16 = .ok (.iconst (-1), 1) := by decide +kernel
theorem eX11_isHint_17 : decode cX11_isHint 17 = .ok (.iastore, 1) := by decide +kernel
theorem eX11_isHint_18 : decode cX11_isHint 18 = .ok (.iinc 4 1, 3) := by decide +kernel
theorem eX11_isHint_21 : decode cX11_isHint 21 = .ok (.goto (-18), 3) := by decide +kernel
theorem eX11_isHint_24 : decode cX11_isHint 24 = .ok (.aload_n 0, 1) := by decide +kernel
theorem eX11_isHint_25 : decode cX11_isHint 25 = .ok (.iload_n 1, 1) := by decide +kernel
theorem eX11_isHint_26 : decode cX11_isHint 26 = .ok (.iload_n 2, 1) := by decide +kernel
theorem eX11_isHint_27 : decode cX11_isHint 27 = .ok (.iload_n 3, 1) := by decide +kernel
theorem eX11_isHint_28 : decode cX11_isHint 28 = .ok (.invokevirtual 539, 3) := by decide +kernel
theorem eX11_isHint_31 : decode cX11_isHint 31 = .ok (.aload_n 0, 1) := by decide +kernel
theorem eX11_isHint_32 : decode cX11_isHint 32 = .ok (.iconst 2, 1) := by decide +kernel
theorem eX11_isHint_33 : decode cX11_isHint 33 = .ok (.invokevirtual 330, 3) := by decide +kernel
theorem eX11_isHint_36 : decode cX11_isHint 36 = .ok (.sipush 400, 3) := by decide +kernel
theorem eX11_isHint_39 : decode cX11_isHint 39 = .ok (.if_icmp .le 5, 3) := by decide +kernel
theorem eX11_isHint_42 : decode cX11_isHint 42 = .ok (.iconst 0, 1) := by decide +kernel
theorem eX11_isHint_43 : decode cX11_isHint 43 = .ok (.ireturn, 1) := by decide +kernel
theorem eX11_isHint_44 : decode cX11_isHint 44 = .ok (.aload_n 0, 1) := by decide +kernel
theorem eX11_isHint_45 : decode cX11_isHint 45 = .ok (.iconst 2, 1) := by decide +kernel
theorem eX11_isHint_46 : decode cX11_isHint 46 = .ok (.invokevirtual 454, 3) := by decide +kernel
theorem eX11_isHint_49 : decode cX11_isHint 49 = .ok (.aload_n 0, 1) := by decide +kernel
theorem eX11_isHint_50 : decode cX11_isHint 50 = .ok (.lconst 1, 1) := by decide +kernel
theorem eX11_isHint_51 : decode cX11_isHint 51 = .ok (.aload_n 0, 1) := by decide +kernel
theorem eX11_isHint_52 : decode cX11_isHint 52 = .ok (.getfield 20, 3) := by decide +kernel
theorem eX11_isHint_55 : decode cX11_isHint 55 = .ok (.iconst 2, 1) := by decide +kernel
theorem eX11_isHint_56 : decode cX11_isHint 56 = .ok (.iaload, 1) := by decide +kernel
theorem eX11_isHint_57 : decode cX11_isHint 57 = .ok (.lshl, 1) := by decide +kernel
theorem eX11_isHint_58 : decode cX11_isHint 58 = .ok (.lconst 1, 1) := by decide +kernel
theorem eX11_isHint_59 : decode cX11_isHint 59 = .ok (.lsub, 1) := by decide +kernel
theorem eX11_isHint_60 : decode cX11_isHint 60 = .ok (.invokevirtual 457, 3) := by decide +kernel
theorem eX11_isHint_63 : decode cX11_isHint 63 = .ok (.ireturn, 1) := by decide +kernel
def C_X11_isHint (s : ST) (p : Int) (q : Int) (u : Int) (Q : ST → Int → Prop) : Prop := bx <| RA s → R32 p → R32 q → R32 u → q_met mX11_isHint (qs layM s) [.ref 139, .int (Int32.ofInt p), .int (Int32.ofInt q), .int (Int32.ofInt u)] (PB layM Q)
theorem C_X11_isHint.mono {s : ST} {p : Int} {q : Int} {u : Int} {Q Q' : ST → Int → Prop} (h : C_X11_isHint s p q u Q) (hq : ∀ s v, Q s v → Q' s v) : C_X11_isHint s p q u Q' := ⟨fun hA hrp hrq hru => q_met.mono (h.1 hA hrp hrq hru) (fun _ _ => PB.mono hq), trivial⟩
def K_X11_isHint_3 (s : ST) (a1 : Int) (a2 : Int) (a3 : Int) (a4 : Int) (Q : ST → Int → Prop) : Prop := bx <| RA s → R32 a1 → R32 a2 → R32 a3 → R32 a4 → q_K mX11_isHint (qs layM s) 0 0 3 [(0, .ref 139), (1, .int (Int32.ofInt a1)), (2, .int (Int32.ofInt a2)), (3, .int (Int32.ofInt a3)), (4, .int (Int32.ofInt a4))] [] (q_fin mX11_isHint (PB layM Q))
set_option maxRecDepth 20000 in
theorem s_X11_isHint_3 {s : ST} {a1 : Int} {a2 : Int} {a3 : Int} {a4 : Int} {Q : ST → Int → Prop} (h : RA s → R32 a1 → R32 a2 → R32 a3 → R32 a4 → ((40 ≤ a4 → (C_X11_change s a1 a2 a3 (fun s1 => (C_X11_asksOf s1 2 (fun s2 v2 => ((v2 ≤ 400 → (C_X11_layOut s2 2 (fun s3 => (((0 : Int) ≤ (2 : Int) ∧ (2 : Int) < 6) ∧ (C_X11_makes s3 ((lshl 1 (s3.1 142 2)) - 1) (fun s5 v5 => (v5 = 0 ∨ v5 = 1) → Q s5 v5)))))) ∧ (¬ v2 ≤ 400 → Q s2 0))))))) ∧ (¬ 40 ≤ a4 → (((0 : Int) ≤ a4 ∧ a4 < 40) ∧ (R32 (a4 + 1) ∧ K_X11_isHint_3 (ui s 182 a4 (-1)) a1 a2 a3 (a4 + 1) Q))))) : K_X11_isHint_3 s a1 a2 a3 a4 Q := by
  refine ⟨?_, trivial⟩
  intro hA hra1 hra2 hra3 hra4
  have h := h hA hra1 hra2 hra3 hra4
  refine q_iload eX11_isHint_3 rfl ?_
  refine q_bi (v := Int32.ofInt 40) eX11_isHint_5 rfl ?_
  refine q_cz_ge (tgt := 24) (a := a4) (b := 40) eX11_isHint_7 (by decide) (ofz hra4) (ofz (r32l rfl)) (fun c7 => ?_) (fun c7 => ?_)
  · have h := h.1 c7
    refine q_aload_n eX11_isHint_24 rfl ?_
    refine q_iload_n eX11_isHint_25 rfl ?_
    refine q_iload_n eX11_isHint_26 rfl ?_
    refine q_iload_n eX11_isHint_27 rfl ?_
    refine q_V3 (ci := 11) (n := 0) eX11_isHint_28 DX11_change lX11_539 rfl (by decide) rfl rfl rfl rfl (h.1 hA hra1 hra2 hra3) ?_
    rintro _ _ ⟨s1, rfl, hA1, rfl, h⟩
    refine q_aload_n eX11_isHint_31 rfl ?_
    refine q_ic (v := Int32.ofInt 2) eX11_isHint_32 rfl ?_
    refine q_V1 (ci := 11) (n := 0) eX11_isHint_33 DX11_asksOf lX11_330 rfl (by decide) rfl rfl rfl rfl (h.1 hA1 (r32l rfl)) ?_
    rintro _ _ ⟨s2, v2, rfl, hA2, r2, rfl, h⟩
    refine q_si (v := Int32.ofInt 400) eX11_isHint_36 rfl ?_
    refine q_cz_le (tgt := 44) (a := v2) (b := 400) eX11_isHint_39 (by decide) (ofz r2) (ofz (r32l rfl)) (fun c39 => ?_) (fun c39 => ?_)
    · have h := h.1 c39
      refine q_aload_n eX11_isHint_44 rfl ?_
      refine q_ic (v := Int32.ofInt 2) eX11_isHint_45 rfl ?_
      refine q_V1 (ci := 11) (n := 0) eX11_isHint_46 DX11_layOut lX11_454 rfl (by decide) rfl rfl rfl rfl (h.1 hA2 (r32l rfl)) ?_
      rintro _ _ ⟨s3, rfl, hA3, rfl, h⟩
      refine q_aload_n eX11_isHint_49 rfl ?_
      refine q_lc (v := 1) eX11_isHint_50 rfl ?_
      refine q_aload_n eX11_isHint_51 rfl ?_
      refine q_getR (c := 11) (n := 0) (k := 11) (a := 142) eX11_isHint_52 rfl (by decide) (by decide) fX11_20 rfl rfl ?_
      refine q_ic (v := Int32.ofInt 2) eX11_isHint_55 rfl ?_
      have f4 := h.1
      have h := h.2
      refine z_iald (n := 6) eX11_isHint_56 rfl (ofz (r32l rfl)) f4 ?_
      refine q_topI (v := Int32.ofInt (s3.1 142 2)) rfl ?_
      refine z_lshl eX11_isHint_57 ?_
      refine q_lc (v := 1) eX11_isHint_58 rfl ?_
      refine q_lsub eX11_isHint_59 ?_
      refine q_V1 (ci := 11) (n := 0) eX11_isHint_60 DX11_makes lX11_457 rfl (by decide) rfl rfl rfl rfl (h.1 hA3) ?_
      rintro _ _ ⟨s5, v5, rfl, hA5, b5, rfl, h⟩
      have h := h b5
      exact q_zret eX11_isHint_63 rfl (z01 b5) ⟨_, _, rfl, hA5, b5, rfl, h⟩
    · have h := h.2 c39
      refine q_ic (v := Int32.ofInt 0) eX11_isHint_42 rfl ?_
      exact q_zret eX11_isHint_43 rfl (z01 (Or.inl rfl)) ⟨_, _, rfl, hA2, (Or.inl rfl), rfl, h⟩
  · have h := h.2 c7
    refine q_aload_n eX11_isHint_10 rfl ?_
    refine q_getR (c := 11) (n := 0) (k := 64) (a := 182) eX11_isHint_11 rfl (by decide) (by decide) fX11_146 rfl rfl ?_
    refine q_iload eX11_isHint_14 rfl ?_
    refine q_ic (v := Int32.ofInt (-1)) eX11_isHint_16 rfl ?_
    have f6 := h.1
    have h := h.2
    refine z_iast (n := 40) eX11_isHint_17 rfl (ofz hra4) f6  ?_
    have r7 := h.1
    have h := h.2
    refine z_inc (m := 1) eX11_isHint_18 rfl (Nat.le_of_ble_eq_true rfl) rfl ?_
    refine q_goto (tgt := 3) eX11_isHint_21 (by decide) ?_
    exact q_subL rfl (h.1 (ra_ui hA (r32l rfl)) hra1 hra2 hra3 r7)
set_option maxRecDepth 20000 in
theorem s_X11_isHint {s : ST} {p : Int} {q : Int} {u : Int} {Q : ST → Int → Prop} (h : RA s → R32 p → R32 q → R32 u → K_X11_isHint_3 s p q u 0 Q) : C_X11_isHint s p q u Q := by
  refine ⟨?_, trivial⟩
  intro hA hrp hrq hru
  have h := h hA hrp hrq hru
  refine q_enter (by decide) (Nat.le_of_ble_eq_true rfl) ?_
  refine q_ic (v := Int32.ofInt 0) eX11_isHint_0 rfl ?_
  refine q_istore eX11_isHint_1 (Nat.le_of_ble_eq_true rfl) ?_
  exact q_subL rfl (h.1 hA hrp hrq hru (r32l rfl))
theorem eX11_adds_0 : decode cX11_adds 0 = .ok (.aload_n 0, 1) := by decide +kernel
theorem eX11_adds_1 : decode cX11_adds 1 = .ok (.getfield 542, 3) := by decide +kernel
theorem eX11_adds_4 : decode cX11_adds 4 = .ok (.bipush 40, 2) := by decide +kernel
theorem eX11_adds_6 : decode cX11_adds 6 = .ok (.if_icmp .eq 13, 3) := by decide +kernel
theorem eX11_adds_9 : decode cX11_adds 9 = .ok (.aload_n 0, 1) := by decide +kernel
theorem eX11_adds_10 : decode cX11_adds 10 = .ok (.iload_n 1, 1) := by decide +kernel
theorem eX11_adds_11 : decode cX11_adds 11 = .ok (.iload_n 2, 1) := by decide +kernel
theorem eX11_adds_12 : decode cX11_adds 12 = .ok (.iload_n 3, 1) := by decide +kernel
theorem eX11_adds_13 : decode cX11_adds 13 = .ok (.invokevirtual 545, 3) := by decide +kernel
theorem eX11_adds_16 : decode cX11_adds 16 = .ok (.ifCond .ne 4, 3) := by decide +kernel
theorem eX11_adds_19 : decode cX11_adds 19 = .ok (.return_, 1) := by decide +kernel
theorem eX11_adds_20 : decode cX11_adds 20 = .ok (.aload_n 0, 1) := by decide +kernel
theorem eX11_adds_21 : decode cX11_adds 21 = .ok (.getfield 152, 3) := by decide +kernel
theorem eX11_adds_24 : decode cX11_adds 24 = .ok (.aload_n 0, 1) := by decide +kernel
theorem eX11_adds_25 : decode cX11_adds 25 = .ok (.getfield 542, 3) := by decide +kernel
theorem eX11_adds_28 : decode cX11_adds 28 = .ok (.iload_n 1, 1) := by decide +kernel
theorem eX11_adds_29 : decode cX11_adds 29 = .ok (.iastore, 1) := by decide +kernel
theorem eX11_adds_30 : decode cX11_adds 30 = .ok (.aload_n 0, 1) := by decide +kernel
theorem eX11_adds_31 : decode cX11_adds 31 = .ok (.getfield 155, 3) := by decide +kernel
theorem eX11_adds_34 : decode cX11_adds 34 = .ok (.aload_n 0, 1) := by decide +kernel
theorem eX11_adds_35 : decode cX11_adds 35 = .ok (.getfield 542, 3) := by decide +kernel
theorem eX11_adds_38 : decode cX11_adds 38 = .ok (.iload_n 2, 1) := by decide +kernel
theorem eX11_adds_39 : decode cX11_adds 39 = .ok (.iastore, 1) := by decide +kernel
theorem eX11_adds_40 : decode cX11_adds 40 = .ok (.aload_n 0, 1) := by decide +kernel
theorem eX11_adds_41 : decode cX11_adds 41 = .ok (.getfield 158, 3) := by decide +kernel
theorem eX11_adds_44 : decode cX11_adds 44 = .ok (.aload_n 0, 1) := by decide +kernel
theorem eX11_adds_45 : decode cX11_adds 45 = .ok (.getfield 542, 3) := by decide +kernel
theorem eX11_adds_48 : decode cX11_adds 48 = .ok (.iload_n 3, 1) := by decide +kernel
theorem eX11_adds_49 : decode cX11_adds 49 = .ok (.iastore, 1) := by decide +kernel
theorem eX11_adds_50 : decode cX11_adds 50 = .ok (.aload_n 0, 1) := by decide +kernel
theorem eX11_adds_51 : decode cX11_adds 51 = .ok (.dup, 1) := by decide +kernel
theorem eX11_adds_52 : decode cX11_adds 52 = .ok (.getfield 542, 3) := by decide +kernel
theorem eX11_adds_55 : decode cX11_adds 55 = .ok (.iconst 1, 1) := by decide +kernel
theorem eX11_adds_56 : decode cX11_adds 56 = .ok (.iadd, 1) := by decide +kernel
theorem eX11_adds_57 : decode cX11_adds 57 = .ok (.putfield 542, 3) := by decide +kernel
theorem eX11_adds_60 : decode cX11_adds 60 = .ok (.return_, 1) := by decide +kernel
def C_X11_adds (s : ST) (p : Int) (q : Int) (u : Int) (Q : ST → Prop) : Prop := bx <| RA s → R32 p → R32 q → R32 u → q_met mX11_adds (qs layM s) [.ref 139, .int (Int32.ofInt p), .int (Int32.ofInt q), .int (Int32.ofInt u)] (PV layM Q)
theorem C_X11_adds.mono {s : ST} {p : Int} {q : Int} {u : Int} {Q Q' : ST → Prop} (h : C_X11_adds s p q u Q) (hq : ∀ s, Q s → Q' s) : C_X11_adds s p q u Q' := ⟨fun hA hrp hrq hru => q_met.mono (h.1 hA hrp hrq hru) (fun _ _ => PV.mono hq), trivial⟩
set_option maxRecDepth 20000 in
theorem s_X11_adds {s : ST} {p : Int} {q : Int} {u : Int} {Q : ST → Prop} (h : RA s → R32 p → R32 q → R32 u → ((s.1 139 70 = 40 → Q s) ∧ (¬ s.1 139 70 = 40 → (C_X11_isHint s p q u (fun s1 v1 => (v1 = 0 ∨ v1 = 1) → ((¬ v1 = 0 → (((0 : Int) ≤ s1.1 139 70 ∧ s1.1 139 70 < 40) ∧ (R32 (s1.1 139 70 + 1) ∧ Q (ui (ui (ui (ui s1 184 (s1.1 139 70) p) 185 (s1.1 139 70) q) 186 (s1.1 139 70) u) 139 70 (s1.1 139 70 + 1))))) ∧ (v1 = 0 → Q s1))))))) : C_X11_adds s p q u Q := by
  refine ⟨?_, trivial⟩
  intro hA hrp hrq hru
  have h := h hA hrp hrq hru
  refine q_enter (by decide) (Nat.le_of_ble_eq_true rfl) ?_
  refine q_aload_n eX11_adds_0 rfl ?_
  refine q_getf (c := 11) (n := 0) (k := 70) (v := .int (Int32.ofInt (s.1 139 70))) eX11_adds_1 rfl (by decide) (by decide) fX11_542 rfl ?_
  refine q_bi (v := Int32.ofInt 40) eX11_adds_4 rfl ?_
  refine q_cz_eq (tgt := 19) (a := s.1 139 70) (b := 40) eX11_adds_6 (by decide) (ofz (hA _ _)) (ofz (r32l rfl)) (fun c6 => ?_) (fun c6 => ?_)
  · have h := h.1 c6
    exact q_ret eX11_adds_19 rfl ⟨_, rfl, hA, rfl, h⟩
  · have h := h.2 c6
    refine q_aload_n eX11_adds_9 rfl ?_
    refine q_iload_n eX11_adds_10 rfl ?_
    refine q_iload_n eX11_adds_11 rfl ?_
    refine q_iload_n eX11_adds_12 rfl ?_
    refine q_V3 (ci := 11) (n := 0) eX11_adds_13 DX11_isHint lX11_545 rfl (by decide) rfl rfl rfl rfl (h.1 hA hrp hrq hru) ?_
    rintro _ _ ⟨s1, v1, rfl, hA1, b1, rfl, h⟩
    have h := h b1
    refine q_iz_ne (tgt := 20) (a := v1) eX11_adds_16 (by decide) (ofz (r01 b1)) (fun c16 => ?_) (fun c16 => ?_)
    · have h := h.1 c16
      refine q_aload_n eX11_adds_20 rfl ?_
      refine q_getR (c := 11) (n := 0) (k := 66) (a := 184) eX11_adds_21 rfl (by decide) (by decide) fX11_152 rfl rfl ?_
      refine q_aload_n eX11_adds_24 rfl ?_
      refine q_getf (c := 11) (n := 0) (k := 70) (v := .int (Int32.ofInt (s1.1 139 70))) eX11_adds_25 rfl (by decide) (by decide) fX11_542 rfl ?_
      refine q_iload_n eX11_adds_28 rfl ?_
      have f2 := h.1
      have h := h.2
      refine z_iast (n := 40) eX11_adds_29 rfl (ofz (hA1 _ _)) f2  ?_
      refine q_aload_n eX11_adds_30 rfl ?_
      refine q_getR (c := 11) (n := 0) (k := 67) (a := 185) eX11_adds_31 rfl (by decide) (by decide) fX11_155 rfl rfl ?_
      refine q_aload_n eX11_adds_34 rfl ?_
      refine q_getf (c := 11) (n := 0) (k := 70) (v := .int (Int32.ofInt (s1.1 139 70))) eX11_adds_35 rfl (by decide) (by decide) fX11_542 rfl ?_
      refine q_iload_n eX11_adds_38 rfl ?_
      refine z_iast (n := 40) eX11_adds_39 rfl (ofz (hA1 _ _)) f2  ?_
      refine q_aload_n eX11_adds_40 rfl ?_
      refine q_getR (c := 11) (n := 0) (k := 68) (a := 186) eX11_adds_41 rfl (by decide) (by decide) fX11_158 rfl rfl ?_
      refine q_aload_n eX11_adds_44 rfl ?_
      refine q_getf (c := 11) (n := 0) (k := 70) (v := .int (Int32.ofInt (s1.1 139 70))) eX11_adds_45 rfl (by decide) (by decide) fX11_542 rfl ?_
      refine q_iload_n eX11_adds_48 rfl ?_
      refine z_iast (n := 40) eX11_adds_49 rfl (ofz (hA1 _ _)) f2  ?_
      refine q_aload_n eX11_adds_50 rfl ?_
      refine q_dup eX11_adds_51 rfl ?_
      refine q_getf (c := 11) (n := 0) (k := 70) (v := .int (Int32.ofInt (s1.1 139 70))) eX11_adds_52 rfl (by decide) (by decide) fX11_542 rfl ?_
      refine q_ic (v := Int32.ofInt 1) eX11_adds_55 rfl ?_
      refine z_iadd eX11_adds_56 ?_
      have r3 := h.1
      have h := h.2
      refine z_putI (c := 11) (n := 0) (k := 70) (kz := 70) eX11_adds_57 rfl (by decide) (by decide) fX11_542 rfl rfl rfl ?_
      exact q_ret eX11_adds_60 rfl ⟨_, rfl, (ra_ui (ra_ui (ra_ui (ra_ui hA1 hrp) hrq) hru) r3), rfl, h⟩
    · have h := h.2 c16
      exact q_ret eX11_adds_19 rfl ⟨_, rfl, hA1, rfl, h⟩
theorem eX11_findHints_0 : decode cX11_findHints 0 = .ok (.aload_n 0, 1) := by decide +kernel
theorem eX11_findHints_1 : decode cX11_findHints 1 = .ok (.getfield 496, 3) := by decide +kernel
theorem eX11_findHints_4 : decode cX11_findHints 4 = .ok (.ifCond .eq 4, 3) := by decide +kernel
theorem eX11_findHints_7 : decode cX11_findHints 7 = .ok (.return_, 1) := by decide +kernel
theorem eX11_findHints_8 : decode cX11_findHints 8 = .ok (.aload_n 0, 1) := by decide +kernel
theorem eX11_findHints_9 : decode cX11_findHints 9 = .ok (.iconst 1, 1) := by decide +kernel
theorem eX11_findHints_10 : decode cX11_findHints 10 = .ok (.putfield 496, 3) := by decide +kernel
theorem eX11_findHints_13 : decode cX11_findHints 13 = .ok (.aload_n 0, 1) := by decide +kernel
theorem eX11_findHints_14 : decode cX11_findHints 14 = .ok (.iconst 0, 1) := by decide +kernel
theorem eX11_findHints_15 : decode cX11_findHints 15 = .ok (.putfield 542, 3) := by decide +kernel
theorem eX11_findHints_18 : decode cX11_findHints 18 = .ok (.aload_n 0, 1) := by decide +kernel
theorem eX11_findHints_19 : decode cX11_findHints 19 = .ok (.invokevirtual 513, 3) := by decide +kernel
theorem eX11_findHints_22 : decode cX11_findHints 22 = .ok (.aload_n 0, 1) := by decide +kernel
theorem eX11_findHints_23 : decode cX11_findHints 23 = .ok (.getfield 502, 3) := by decide +kernel
theorem eX11_findHints_26 : decode cX11_findHints 26 = .ok (.lstore_n 1, 1) := by decide +kernel
theorem eX11_findHints_27 : decode cX11_findHints 27 = .ok (.iconst 0, 1) := by decide +kernel
theorem eX11_findHints_28 : decode cX11_findHints 28 = .ok (.istore_n 3, 1) := by decide +kernel
theorem eX11_findHints_29 : decode cX11_findHints 29 = .ok (.iload_n 3, 1) := by decide +kernel
theorem eX11_findHints_30 : decode cX11_findHints 30 = .ok (.aload_n 0, 1) := by decide +kernel
theorem eX11_findHints_31 : decode cX11_findHints 31 = .ok (.getfield 20, 3) := by decide +kernel
theorem eX11_findHints_34 : decode cX11_findHints 34 = .ok (.aload_n 0, 1) := by decide +kernel
theorem eX11_findHints_35 : decode cX11_findHints 35 = .ok (.getfield 321, 3) := by decide +kernel
theorem eX11_findHints_38 : decode cX11_findHints 38 = .ok (.iaload, 1) := by decide +kernel
theorem eX11_findHints_39 : decode cX11_findHints 39 = .ok (.if_icmp .ge 122, 3) := by decide +kernel
theorem eX11_findHints_42 : decode cX11_findHints 42 = .ok (.lload_n 1, 1) := by decide +kernel
theorem eX11_findHints_43 : decode cX11_findHints 43 = .ok (.iload_n 3, 1) := by decide +kernel
theorem eX11_findHints_44 : decode cX11_findHints 44 = .ok (.lshr, 1) := by decide +kernel
theorem eX11_findHints_45 : decode cX11_findHints 45 = .ok (.lconst 1, 1) := by decide +kernel
theorem eX11_findHints_46 : decode cX11_findHints 46 = .ok (.land, 1) := by decide +kernel
theorem eX11_findHints_47 : decode cX11_findHints 47 = .ok (.lconst 0, 1) := by decide +kernel
theorem eX11_findHints_48 : decode cX11_findHints 48 = .ok (.lcmp, 1) := by decide +kernel
theorem eX11_findHints_49 : decode cX11_findHints 49 = .ok (.ifCond .ne 6, 3) := by decide +kernel
theorem eX11_findHints_52 : decode cX11_findHints 52 = .ok (.goto 103, 3) := by decide +kernel
theorem eX11_findHints_55 : decode cX11_findHints 55 = .ok (.aload_n 0, 1) := by decide +kernel
theorem eX11_findHints_56 : decode cX11_findHints 56 = .ok (.getfield 33, 3) := by decide +kernel
theorem eX11_findHints_59 : decode cX11_findHints 59 = .ok (.bipush 40, 2) := by decide +kernel
theorem eX11_findHints_61 : decode cX11_findHints 61 = .ok (.aload_n 0, 1) := by decide +kernel
theorem eX11_findHints_62 : decode cX11_findHints 62 = .ok (.getfield 321, 3) := by decide +kernel
theorem eX11_findHints_65 : decode cX11_findHints 65 = .ok (.imul, 1) := by decide +kernel
theorem eX11_findHints_66 : decode cX11_findHints 66 = .ok (.iload_n 3, 1) := by decide +kernel
theorem eX11_findHints_67 : decode cX11_findHints 67 = .ok (.iadd, 1) := by decide +kernel
theorem eX11_findHints_68 : decode cX11_findHints 68 = .ok (.iaload, 1) := by decide +kernel
theorem eX11_findHints_69 : decode cX11_findHints 69 = .ok (.istore 4, 2) := by decide +kernel
theorem eX11_findHints_71 : decode cX11_findHints 71 = .ok (.iload 4, 2) := by decide +kernel
theorem eX11_findHints_73 : decode cX11_findHints 73 = .ok (.invokestatic 548, 3) := by decide +kernel
theorem eX11_findHints_76 : decode cX11_findHints 76 = .ok (.ifCond .eq 10, 3) := by decide +kernel
theorem eX11_findHints_79 : decode cX11_findHints 79 = .ok (.aload_n 0, 1) := by decide +kernel
theorem eX11_findHints_80 : decode cX11_findHints 80 = .ok (.iload_n 3, 1) := by decide +kernel
theorem eX11_findHints_81 : decode cX11_findHints 81 = .ok (.iconst 0, 1) := by decide +kernel
theorem eX11_findHints_82 : decode cX11_findHints 82 = .ok (.iconst 0, 1) := by decide +kernel
theorem eX11_findHints_83 : decode cX11_findHints 83 = .ok (.invokevirtual 551, 3) := by decide +kernel
theorem eX11_findHints_86 : decode cX11_findHints 86 = .ok (.iload 4, 2) := by decide +kernel
theorem eX11_findHints_88 : decode cX11_findHints 88 = .ok (.iconst 2, 1) := by decide +kernel
theorem eX11_findHints_89 : decode cX11_findHints 89 = .ok (.if_icmp .ne 34, 3) := by decide +kernel
theorem eX11_findHints_92 : decode cX11_findHints 92 = .ok (.aload_n 0, 1) := by decide +kernel
theorem eX11_findHints_93 : decode cX11_findHints 93 = .ok (.iload_n 3, 1) := by decide +kernel
theorem eX11_findHints_94 : decode cX11_findHints 94 = .ok (.invokevirtual 554, 3) := by decide +kernel
theorem eX11_findHints_97 : decode cX11_findHints 97 = .ok (.iconst 0, 1) := by decide +kernel
theorem eX11_findHints_98 : decode cX11_findHints 98 = .ok (.istore 5, 2) := by decide +kernel
theorem eX11_findHints_100 : decode cX11_findHints 100 = .ok (.iload 5, 2) := by decide +kernel
theorem eX11_findHints_102 : decode cX11_findHints 102 = .ok (.aload_n 0, 1) := by decide +kernel
theorem eX11_findHints_103 : decode cX11_findHints 103 = .ok (.getfield 516, 3) := by decide +kernel
theorem eX11_findHints_106 : decode cX11_findHints 106 = .ok (.if_icmp .ge 17, 3) := by decide +kernel
theorem eX11_findHints_109 : decode cX11_findHints 109 = .ok (.aload_n 0, 1) := by decide +kernel
theorem eX11_findHints_110 : decode cX11_findHints 110 = .ok (.iload_n 3, 1) := by decide +kernel
theorem eX11_findHints_111 : decode cX11_findHints 111 = .ok (.iconst 1, 1) := by decide +kernel
theorem eX11_findHints_112 : decode cX11_findHints 112 = .ok (.iload 5, 2) := by decide +kernel
theorem eX11_findHints_114 : decode cX11_findHints 114 = .ok (.invokevirtual 551, 3) := by decide +kernel
theorem eX11_findHints_117 : decode cX11_findHints 117 = .ok (.iinc 5 1, 3) := by decide +kernel
theorem eX11_findHints_120 : decode cX11_findHints 120 = .ok (.goto (-20), 3) := by decide +kernel
theorem eX11_findHints_123 : decode cX11_findHints 123 = .ok (.iload 4, 2) := by decide +kernel
theorem eX11_findHints_125 : decode cX11_findHints 125 = .ok (.ifCond .ne 10, 3) := by decide +kernel
theorem eX11_findHints_128 : decode cX11_findHints 128 = .ok (.aload_n 0, 1) := by decide +kernel
theorem eX11_findHints_129 : decode cX11_findHints 129 = .ok (.iload_n 3, 1) := by decide +kernel
theorem eX11_findHints_130 : decode cX11_findHints 130 = .ok (.iconst 2, 1) := by decide +kernel
theorem eX11_findHints_131 : decode cX11_findHints 131 = .ok (.iconst 0, 1) := by decide +kernel
theorem eX11_findHints_132 : decode cX11_findHints 132 = .ok (.invokevirtual 551, 3) := by decide +kernel
theorem eX11_findHints_135 : decode cX11_findHints 135 = .ok (.iload 4, 2) := by decide +kernel
theorem eX11_findHints_137 : decode cX11_findHints 137 = .ok (.iconst 1, 1) := by decide +kernel
theorem eX11_findHints_138 : decode cX11_findHints 138 = .ok (.if_icmp .ne 10, 3) := by decide +kernel
theorem eX11_findHints_141 : decode cX11_findHints 141 = .ok (.aload_n 0, 1) := by decide +kernel
theorem eX11_findHints_142 : decode cX11_findHints 142 = .ok (.iload_n 3, 1) := by decide +kernel
theorem eX11_findHints_143 : decode cX11_findHints 143 = .ok (.iconst 3, 1) := by decide +kernel
theorem eX11_findHints_144 : decode cX11_findHints 144 = .ok (.iconst 0, 1) := by decide +kernel
theorem eX11_findHints_145 : decode cX11_findHints 145 = .ok (.invokevirtual 551, 3) := by decide +kernel
theorem eX11_findHints_148 : decode cX11_findHints 148 = .ok (.aload_n 0, 1) := by decide +kernel
theorem eX11_findHints_149 : decode cX11_findHints 149 = .ok (.iload_n 3, 1) := by decide +kernel
theorem eX11_findHints_150 : decode cX11_findHints 150 = .ok (.iconst 4, 1) := by decide +kernel
theorem eX11_findHints_151 : decode cX11_findHints 151 = .ok (.iconst 0, 1) := by decide +kernel
theorem eX11_findHints_152 : decode cX11_findHints 152 = .ok (.invokevirtual 551, 3) := by decide +kernel
theorem eX11_findHints_155 : decode cX11_findHints 155 = .ok (.iinc 3 1, 3) := by decide +kernel
theorem eX11_findHints_158 : decode cX11_findHints 158 = .ok (.goto (-129), 3) := by decide +kernel
theorem eX11_findHints_161 : decode cX11_findHints 161 = .ok (.return_, 1) := by decide +kernel
def C_X11_findHints (s : ST) (Q : ST → Prop) : Prop := bx <| RA s → q_met mX11_findHints (qs layM s) [.ref 139] (PV layM Q)
theorem C_X11_findHints.mono {s : ST} {Q Q' : ST → Prop} (h : C_X11_findHints s Q) (hq : ∀ s, Q s → Q' s) : C_X11_findHints s Q' := ⟨fun hA => q_met.mono (h.1 hA) (fun _ _ => PV.mono hq), trivial⟩
def K_X11_findHints_148 (s : ST) (a1 : Int64) (a3 : Int) (Q : ST → Prop) : Prop := bx <| RA s → R32 a3 → q_K mX11_findHints (qs layM s) 0 0 148 [(0, .ref 139), (1, .long a1), (3, .int (Int32.ofInt a3))] [] (q_fin mX11_findHints (PV layM Q))
def K_X11_findHints_135 (s : ST) (a1 : Int64) (a3 : Int) (a4 : Int) (Q : ST → Prop) : Prop := bx <| RA s → R32 a3 → R32 a4 → q_K mX11_findHints (qs layM s) 0 0 135 [(0, .ref 139), (1, .long a1), (3, .int (Int32.ofInt a3)), (4, .int (Int32.ofInt a4))] [] (q_fin mX11_findHints (PV layM Q))
def K_X11_findHints_123 (s : ST) (a1 : Int64) (a3 : Int) (a4 : Int) (Q : ST → Prop) : Prop := bx <| RA s → R32 a3 → R32 a4 → q_K mX11_findHints (qs layM s) 0 0 123 [(0, .ref 139), (1, .long a1), (3, .int (Int32.ofInt a3)), (4, .int (Int32.ofInt a4))] [] (q_fin mX11_findHints (PV layM Q))
def K_X11_findHints_100 (s : ST) (a1 : Int64) (a3 : Int) (a4 : Int) (a5 : Int) (Q : ST → Prop) : Prop := bx <| RA s → R32 a3 → R32 a4 → R32 a5 → q_K mX11_findHints (qs layM s) 0 0 100 [(0, .ref 139), (1, .long a1), (3, .int (Int32.ofInt a3)), (4, .int (Int32.ofInt a4)), (5, .int (Int32.ofInt a5))] [] (q_fin mX11_findHints (PV layM Q))
def K_X11_findHints_86 (s : ST) (a1 : Int64) (a3 : Int) (a4 : Int) (Q : ST → Prop) : Prop := bx <| RA s → R32 a3 → R32 a4 → q_K mX11_findHints (qs layM s) 0 0 86 [(0, .ref 139), (1, .long a1), (3, .int (Int32.ofInt a3)), (4, .int (Int32.ofInt a4))] [] (q_fin mX11_findHints (PV layM Q))
def K_X11_findHints_29 (s : ST) (a1 : Int64) (a3 : Int) (Q : ST → Prop) : Prop := bx <| RA s → R32 a3 → q_K mX11_findHints (qs layM s) 0 0 29 [(0, .ref 139), (1, .long a1), (3, .int (Int32.ofInt a3))] [] (q_fin mX11_findHints (PV layM Q))
set_option maxRecDepth 20000 in
theorem s_X11_findHints_148 {s : ST} {a1 : Int64} {a3 : Int} {Q : ST → Prop} (h : RA s → R32 a3 → (C_X11_adds s a3 4 0 (fun s1 => (R32 (a3 + 1) ∧ K_X11_findHints_29 s1 a1 (a3 + 1) Q)))) : K_X11_findHints_148 s a1 a3 Q := by
  refine ⟨?_, trivial⟩
  intro hA hra3
  have h := h hA hra3
  refine q_aload_n eX11_findHints_148 rfl ?_
  refine q_iload_n eX11_findHints_149 rfl ?_
  refine q_ic (v := Int32.ofInt 4) eX11_findHints_150 rfl ?_
  refine q_ic (v := Int32.ofInt 0) eX11_findHints_151 rfl ?_
  refine q_V3 (ci := 11) (n := 0) eX11_findHints_152 DX11_adds lX11_551 rfl (by decide) rfl rfl rfl rfl (h.1 hA hra3 (r32l rfl) (r32l rfl)) ?_
  rintro _ _ ⟨s1, rfl, hA1, rfl, h⟩
  have r2 := h.1
  have h := h.2
  refine z_inc (m := 1) eX11_findHints_155 rfl (Nat.le_of_ble_eq_true rfl) rfl ?_
  refine q_goto (tgt := 29) eX11_findHints_158 (by decide) ?_
  exact q_subL rfl (h.1 hA1 r2)
set_option maxRecDepth 20000 in
theorem s_X11_findHints_135 {s : ST} {a1 : Int64} {a3 : Int} {a4 : Int} {Q : ST → Prop} (h : RA s → R32 a3 → R32 a4 → ((¬ a4 = 1 → K_X11_findHints_148 s a1 a3 Q) ∧ (a4 = 1 → (C_X11_adds s a3 3 0 (fun s1 => K_X11_findHints_148 s1 a1 a3 Q))))) : K_X11_findHints_135 s a1 a3 a4 Q := by
  refine ⟨?_, trivial⟩
  intro hA hra3 hra4
  have h := h hA hra3 hra4
  refine q_iload eX11_findHints_135 rfl ?_
  refine q_ic (v := Int32.ofInt 1) eX11_findHints_137 rfl ?_
  refine q_cz_ne (tgt := 148) (a := a4) (b := 1) eX11_findHints_138 (by decide) (ofz hra4) (ofz (r32l rfl)) (fun c138 => ?_) (fun c138 => ?_)
  · have h := h.1 c138
    exact q_subL rfl (h.1 hA hra3)
  · have h := h.2 c138
    refine q_aload_n eX11_findHints_141 rfl ?_
    refine q_iload_n eX11_findHints_142 rfl ?_
    refine q_ic (v := Int32.ofInt 3) eX11_findHints_143 rfl ?_
    refine q_ic (v := Int32.ofInt 0) eX11_findHints_144 rfl ?_
    refine q_V3 (ci := 11) (n := 0) eX11_findHints_145 DX11_adds lX11_551 rfl (by decide) rfl rfl rfl rfl (h.1 hA hra3 (r32l rfl) (r32l rfl)) ?_
    rintro _ _ ⟨s1, rfl, hA1, rfl, h⟩
    exact q_subL rfl (h.1 hA1 hra3)
set_option maxRecDepth 20000 in
theorem s_X11_findHints_123 {s : ST} {a1 : Int64} {a3 : Int} {a4 : Int} {Q : ST → Prop} (h : RA s → R32 a3 → R32 a4 → ((¬ a4 = 0 → K_X11_findHints_135 s a1 a3 a4 Q) ∧ (a4 = 0 → (C_X11_adds s a3 2 0 (fun s1 => K_X11_findHints_135 s1 a1 a3 a4 Q))))) : K_X11_findHints_123 s a1 a3 a4 Q := by
  refine ⟨?_, trivial⟩
  intro hA hra3 hra4
  have h := h hA hra3 hra4
  refine q_iload eX11_findHints_123 rfl ?_
  refine q_iz_ne (tgt := 135) (a := a4) eX11_findHints_125 (by decide) (ofz hra4) (fun c125 => ?_) (fun c125 => ?_)
  · have h := h.1 c125
    exact q_subL rfl (h.1 hA hra3 hra4)
  · have h := h.2 c125
    refine q_aload_n eX11_findHints_128 rfl ?_
    refine q_iload_n eX11_findHints_129 rfl ?_
    refine q_ic (v := Int32.ofInt 2) eX11_findHints_130 rfl ?_
    refine q_ic (v := Int32.ofInt 0) eX11_findHints_131 rfl ?_
    refine q_V3 (ci := 11) (n := 0) eX11_findHints_132 DX11_adds lX11_551 rfl (by decide) rfl rfl rfl rfl (h.1 hA hra3 (r32l rfl) (r32l rfl)) ?_
    rintro _ _ ⟨s1, rfl, hA1, rfl, h⟩
    exact q_subL rfl (h.1 hA1 hra3 hra4)
set_option maxRecDepth 20000 in
theorem s_X11_findHints_100 {s : ST} {a1 : Int64} {a3 : Int} {a4 : Int} {a5 : Int} {Q : ST → Prop} (h : RA s → R32 a3 → R32 a4 → R32 a5 → ((s.1 139 71 ≤ a5 → K_X11_findHints_123 s a1 a3 a4 Q) ∧ (¬ s.1 139 71 ≤ a5 → (C_X11_adds s a3 1 a5 (fun s1 => (R32 (a5 + 1) ∧ K_X11_findHints_100 s1 a1 a3 a4 (a5 + 1) Q)))))) : K_X11_findHints_100 s a1 a3 a4 a5 Q := by
  refine ⟨?_, trivial⟩
  intro hA hra3 hra4 hra5
  have h := h hA hra3 hra4 hra5
  refine q_iload eX11_findHints_100 rfl ?_
  refine q_aload_n eX11_findHints_102 rfl ?_
  refine q_getf (c := 11) (n := 0) (k := 71) (v := .int (Int32.ofInt (s.1 139 71))) eX11_findHints_103 rfl (by decide) (by decide) fX11_516 rfl ?_
  refine q_cz_ge (tgt := 123) (a := a5) (b := s.1 139 71) eX11_findHints_106 (by decide) (ofz hra5) (ofz (hA _ _)) (fun c106 => ?_) (fun c106 => ?_)
  · have h := h.1 c106
    exact q_subL rfl (h.1 hA hra3 hra4)
  · have h := h.2 c106
    refine q_aload_n eX11_findHints_109 rfl ?_
    refine q_iload_n eX11_findHints_110 rfl ?_
    refine q_ic (v := Int32.ofInt 1) eX11_findHints_111 rfl ?_
    refine q_iload eX11_findHints_112 rfl ?_
    refine q_V3 (ci := 11) (n := 0) eX11_findHints_114 DX11_adds lX11_551 rfl (by decide) rfl rfl rfl rfl (h.1 hA hra3 (r32l rfl) hra5) ?_
    rintro _ _ ⟨s1, rfl, hA1, rfl, h⟩
    have r2 := h.1
    have h := h.2
    refine z_inc (m := 1) eX11_findHints_117 rfl (Nat.le_of_ble_eq_true rfl) rfl ?_
    refine q_goto (tgt := 100) eX11_findHints_120 (by decide) ?_
    exact q_subL rfl (h.1 hA1 hra3 hra4 r2)
set_option maxRecDepth 20000 in
theorem s_X11_findHints_86 {s : ST} {a1 : Int64} {a3 : Int} {a4 : Int} {Q : ST → Prop} (h : RA s → R32 a3 → R32 a4 → ((¬ a4 = 2 → K_X11_findHints_123 s a1 a3 a4 Q) ∧ (a4 = 2 → (C_X11_layMeant s a3 (fun s1 => K_X11_findHints_100 s1 a1 a3 a4 0 Q))))) : K_X11_findHints_86 s a1 a3 a4 Q := by
  refine ⟨?_, trivial⟩
  intro hA hra3 hra4
  have h := h hA hra3 hra4
  refine q_iload eX11_findHints_86 rfl ?_
  refine q_ic (v := Int32.ofInt 2) eX11_findHints_88 rfl ?_
  refine q_cz_ne (tgt := 123) (a := a4) (b := 2) eX11_findHints_89 (by decide) (ofz hra4) (ofz (r32l rfl)) (fun c89 => ?_) (fun c89 => ?_)
  · have h := h.1 c89
    exact q_subL rfl (h.1 hA hra3 hra4)
  · have h := h.2 c89
    refine q_aload_n eX11_findHints_92 rfl ?_
    refine q_iload_n eX11_findHints_93 rfl ?_
    refine q_V1 (ci := 11) (n := 0) eX11_findHints_94 DX11_layMeant lX11_554 rfl (by decide) rfl rfl rfl rfl (h.1 hA hra3) ?_
    rintro _ _ ⟨s1, rfl, hA1, rfl, h⟩
    refine q_ic (v := Int32.ofInt 0) eX11_findHints_97 rfl ?_
    refine q_istore eX11_findHints_98 (Nat.le_of_ble_eq_true rfl) ?_
    exact q_subL rfl (h.1 hA1 hra3 hra4 (r32l rfl))
set_option maxRecDepth 20000 in
theorem s_X11_findHints_29 {s : ST} {a1 : Int64} {a3 : Int} {Q : ST → Prop} (h : RA s → R32 a3 → (((0 : Int) ≤ s.1 139 28 ∧ s.1 139 28 < 6) ∧ ((s.1 142 (s.1 139 28) ≤ a3 → Q s) ∧ (¬ s.1 142 (s.1 139 28) ≤ a3 → ((¬ ((lshr a1 a3) &&& 1) = 0 → (R32 (40 * s.1 139 28) ∧ (R32 ((40 * s.1 139 28) + a3) ∧ (((0 : Int) ≤ ((40 * s.1 139 28) + a3) ∧ ((40 * s.1 139 28) + a3) < 240) ∧ ((¬ ((s.1 146 ((40 * s.1 139 28) + a3)) = 6 ∨ ((s.1 146 ((40 * s.1 139 28) + a3)) = 7 ∨ ((s.1 146 ((40 * s.1 139 28) + a3)) = 11 ∨ ((s.1 146 ((40 * s.1 139 28) + a3)) = 14 ∨ ((s.1 146 ((40 * s.1 139 28) + a3)) = 15 ∨ (s.1 146 ((40 * s.1 139 28) + a3)) = 5))))) → K_X11_findHints_86 s a1 a3 (s.1 146 ((40 * s.1 139 28) + a3)) Q) ∧ (((s.1 146 ((40 * s.1 139 28) + a3)) = 6 ∨ ((s.1 146 ((40 * s.1 139 28) + a3)) = 7 ∨ ((s.1 146 ((40 * s.1 139 28) + a3)) = 11 ∨ ((s.1 146 ((40 * s.1 139 28) + a3)) = 14 ∨ ((s.1 146 ((40 * s.1 139 28) + a3)) = 15 ∨ (s.1 146 ((40 * s.1 139 28) + a3)) = 5))))) → (C_X11_adds s a3 0 0 (fun s6 => K_X11_findHints_86 s6 a1 a3 (s.1 146 ((40 * s.1 139 28) + a3)) Q)))))))) ∧ (((lshr a1 a3) &&& 1) = 0 → (R32 (a3 + 1) ∧ K_X11_findHints_29 s a1 (a3 + 1) Q))))))) : K_X11_findHints_29 s a1 a3 Q := by
  refine ⟨?_, trivial⟩
  intro hA hra3
  have h := h hA hra3
  refine q_iload_n eX11_findHints_29 rfl ?_
  refine q_aload_n eX11_findHints_30 rfl ?_
  refine q_getR (c := 11) (n := 0) (k := 11) (a := 142) eX11_findHints_31 rfl (by decide) (by decide) fX11_20 rfl rfl ?_
  refine q_aload_n eX11_findHints_34 rfl ?_
  refine q_getf (c := 11) (n := 0) (k := 28) (v := .int (Int32.ofInt (s.1 139 28))) eX11_findHints_35 rfl (by decide) (by decide) fX11_321 rfl ?_
  have f1 := h.1
  have h := h.2
  refine z_iald (n := 6) eX11_findHints_38 rfl (ofz (hA _ _)) f1 ?_
  refine q_topI (v := Int32.ofInt (s.1 142 (s.1 139 28))) rfl ?_
  refine q_cz_ge (tgt := 161) (a := a3) (b := s.1 142 (s.1 139 28)) eX11_findHints_39 (by decide) (ofz hra3) (ofz (hA _ _)) (fun c39 => ?_) (fun c39 => ?_)
  · have h := h.1 c39
    exact q_ret eX11_findHints_161 rfl ⟨_, rfl, hA, rfl, h⟩
  · have h := h.2 c39
    refine q_lload_n eX11_findHints_42 rfl ?_
    refine q_iload_n eX11_findHints_43 rfl ?_
    refine z_lshr eX11_findHints_44 ?_
    refine q_lc (v := 1) eX11_findHints_45 rfl ?_
    refine q_land eX11_findHints_46 ?_
    refine q_lc (v := 0) eX11_findHints_47 rfl ?_
    refine q_lcmp eX11_findHints_48 ?_
    refine z_lc_ne (tgt := 55) eX11_findHints_49 (by decide) (fun c49 => ?_) (fun c49 => ?_)
    · have h := h.1 c49
      refine q_aload_n eX11_findHints_55 rfl ?_
      refine q_getR (c := 11) (n := 0) (k := 15) (a := 146) eX11_findHints_56 rfl (by decide) (by decide) fX11_33 rfl rfl ?_
      refine q_bi (v := Int32.ofInt 40) eX11_findHints_59 rfl ?_
      refine q_aload_n eX11_findHints_61 rfl ?_
      refine q_getf (c := 11) (n := 0) (k := 28) (v := .int (Int32.ofInt (s.1 139 28))) eX11_findHints_62 rfl (by decide) (by decide) fX11_321 rfl ?_
      refine z_imul eX11_findHints_65 ?_
      have r2 := h.1
      have h := h.2
      refine q_iload_n eX11_findHints_66 rfl ?_
      refine z_iadd eX11_findHints_67 ?_
      have r3 := h.1
      have h := h.2
      have f4 := h.1
      have h := h.2
      refine z_iald (n := 240) eX11_findHints_68 rfl (ofz r3) f4 ?_
      refine q_topI (v := Int32.ofInt (s.1 146 ((40 * s.1 139 28) + a3))) rfl ?_
      refine q_istore eX11_findHints_69 (Nat.le_of_ble_eq_true rfl) ?_
      refine q_iload eX11_findHints_71 rfl ?_
      refine q_S1 eX11_findHints_73 DX11_canTurn lX11_548 rfl rfl rfl (p_X11_canTurn hA (hA _ _)) ?_
      rintro _ _ ⟨b5, rfl, rfl⟩
      refine q_iz_eq (tgt := 86) (a := (F_X11_canTurn s (s.1 146 ((40 * s.1 139 28) + a3)))) eX11_findHints_76 (by decide) (ofz (r01 b5)) (fun c76 => ?_) (fun c76 => ?_)
      · have h := h.1 (fun q => n_X11_canTurn.mpr q c76)
        exact q_subL rfl (h.1 hA hra3 (hA _ _))
      · have h := h.2 (n_X11_canTurn.mp c76)
        refine q_aload_n eX11_findHints_79 rfl ?_
        refine q_iload_n eX11_findHints_80 rfl ?_
        refine q_ic (v := Int32.ofInt 0) eX11_findHints_81 rfl ?_
        refine q_ic (v := Int32.ofInt 0) eX11_findHints_82 rfl ?_
        refine q_V3 (ci := 11) (n := 0) eX11_findHints_83 DX11_adds lX11_551 rfl (by decide) rfl rfl rfl rfl (h.1 hA hra3 (r32l rfl) (r32l rfl)) ?_
        rintro _ _ ⟨s6, rfl, hA6, rfl, h⟩
        exact q_subL rfl (h.1 hA6 hra3 (hA _ _))
    · have h := h.2 c49
      refine q_goto (tgt := 155) eX11_findHints_52 (by decide) ?_
      have r7 := h.1
      have h := h.2
      refine z_inc (m := 1) eX11_findHints_155 rfl (Nat.le_of_ble_eq_true rfl) rfl ?_
      refine q_goto (tgt := 29) eX11_findHints_158 (by decide) ?_
      exact q_subL rfl (h.1 hA r7)
set_option maxRecDepth 20000 in
theorem s_X11_findHints {s : ST} {Q : ST → Prop} (h : RA s → ((s.1 139 63 = 0 → (C_X11_findCheapest (ui (ui s 139 63 1) 139 70 0) (fun s1 => K_X11_findHints_29 s1 (s1.2 139 60) 0 Q))) ∧ (¬ s.1 139 63 = 0 → Q s))) : C_X11_findHints s Q := by
  refine ⟨?_, trivial⟩
  intro hA
  have h := h hA
  refine q_enter (by decide) (Nat.le_of_ble_eq_true rfl) ?_
  refine q_aload_n eX11_findHints_0 rfl ?_
  refine q_getf (c := 11) (n := 0) (k := 63) (v := .int (Int32.ofInt (s.1 139 63))) eX11_findHints_1 rfl (by decide) (by decide) fX11_496 rfl ?_
  refine q_iz_eq (tgt := 8) (a := s.1 139 63) eX11_findHints_4 (by decide) (ofz (hA _ _)) (fun c4 => ?_) (fun c4 => ?_)
  · have h := h.1 c4
    refine q_aload_n eX11_findHints_8 rfl ?_
    refine q_ic (v := Int32.ofInt 1) eX11_findHints_9 rfl ?_
    refine z_putZ (c := 11) (n := 0) (k := 63) (kz := 63) eX11_findHints_10 rfl (by decide) (by decide) fX11_496 rfl rfl rfl (z01 (Or.inr rfl)) ?_
    refine q_aload_n eX11_findHints_13 rfl ?_
    refine q_ic (v := Int32.ofInt 0) eX11_findHints_14 rfl ?_
    refine z_putI (c := 11) (n := 0) (k := 70) (kz := 70) eX11_findHints_15 rfl (by decide) (by decide) fX11_542 rfl rfl rfl ?_
    refine q_aload_n eX11_findHints_18 rfl ?_
    refine q_V0 (ci := 11) (n := 0) eX11_findHints_19 DX11_findCheapest lX11_513 rfl (by decide) rfl rfl rfl rfl (h.1 (ra_ui (ra_ui hA (r32l rfl)) (r32l rfl))) ?_
    rintro _ _ ⟨s1, rfl, hA1, rfl, h⟩
    refine q_aload_n eX11_findHints_22 rfl ?_
    refine q_getf (c := 11) (n := 0) (k := 60) (v := .long (s1.2 139 60)) eX11_findHints_23 rfl (by decide) (by decide) fX11_502 rfl ?_
    refine q_lstore_n eX11_findHints_26 (Nat.le_of_ble_eq_true rfl) ?_
    refine q_ic (v := Int32.ofInt 0) eX11_findHints_27 rfl ?_
    refine q_istore_n eX11_findHints_28 (Nat.le_of_ble_eq_true rfl) ?_
    exact q_subL rfl (h.1 hA1 (r32l rfl))
  · have h := h.2 c4
    exact q_ret eX11_findHints_7 rfl ⟨_, rfl, hA, rfl, h⟩
theorem eX11_hints_0 : decode cX11_hints 0 = .ok (.aload_n 0, 1) := by decide +kernel
theorem eX11_hints_1 : decode cX11_hints 1 = .ok (.getfield 20, 3) := by decide +kernel
theorem eX11_hints_4 : decode cX11_hints 4 = .ok (.aload_n 0, 1) := by decide +kernel
theorem eX11_hints_5 : decode cX11_hints 5 = .ok (.getfield 321, 3) := by decide +kernel
theorem eX11_hints_8 : decode cX11_hints 8 = .ok (.iaload, 1) := by decide +kernel
theorem eX11_hints_9 : decode cX11_hints 9 = .ok (.bipush 24, 2) := by decide +kernel
theorem eX11_hints_11 : decode cX11_hints 11 = .ok (.if_icmp .le 6, 3) := by decide +kernel
theorem eX11_hints_14 : decode cX11_hints 14 = .ok (.bipush (-2), 2) := by decide +kernel
theorem eX11_hints_16 : decode cX11_hints 16 = .ok (.ireturn, 1) := by decide +kernel
theorem eX11_hints_17 : decode cX11_hints 17 = .ok (.aload_n 0, 1) := by decide +kernel
theorem eX11_hints_18 : decode cX11_hints 18 = .ok (.invokevirtual 557, 3) := by decide +kernel
theorem eX11_hints_21 : decode cX11_hints 21 = .ok (.aload_n 0, 1) := by decide +kernel
theorem eX11_hints_22 : decode cX11_hints 22 = .ok (.getfield 542, 3) := by decide +kernel
theorem eX11_hints_25 : decode cX11_hints 25 = .ok (.ireturn, 1) := by decide +kernel
def C_X11_hints (s : ST) (Q : ST → Int → Prop) : Prop := bx <| RA s → q_met mX11_hints (qs layM s) [.ref 139] (PI layM Q)
theorem C_X11_hints.mono {s : ST} {Q Q' : ST → Int → Prop} (h : C_X11_hints s Q) (hq : ∀ s v, Q s v → Q' s v) : C_X11_hints s Q' := ⟨fun hA => q_met.mono (h.1 hA) (fun _ _ => PI.mono hq), trivial⟩
set_option maxRecDepth 20000 in
theorem s_X11_hints {s : ST} {Q : ST → Int → Prop} (h : RA s → (((0 : Int) ≤ s.1 139 28 ∧ s.1 139 28 < 6) ∧ ((s.1 142 (s.1 139 28) ≤ 24 → (C_X11_findHints s (fun s2 => Q s2 (s2.1 139 70)))) ∧ (¬ s.1 142 (s.1 139 28) ≤ 24 → Q s (-2))))) : C_X11_hints s Q := by
  refine ⟨?_, trivial⟩
  intro hA
  have h := h hA
  refine q_enter (by decide) (Nat.le_of_ble_eq_true rfl) ?_
  refine q_aload_n eX11_hints_0 rfl ?_
  refine q_getR (c := 11) (n := 0) (k := 11) (a := 142) eX11_hints_1 rfl (by decide) (by decide) fX11_20 rfl rfl ?_
  refine q_aload_n eX11_hints_4 rfl ?_
  refine q_getf (c := 11) (n := 0) (k := 28) (v := .int (Int32.ofInt (s.1 139 28))) eX11_hints_5 rfl (by decide) (by decide) fX11_321 rfl ?_
  have f1 := h.1
  have h := h.2
  refine z_iald (n := 6) eX11_hints_8 rfl (ofz (hA _ _)) f1 ?_
  refine q_topI (v := Int32.ofInt (s.1 142 (s.1 139 28))) rfl ?_
  refine q_bi (v := Int32.ofInt 24) eX11_hints_9 rfl ?_
  refine q_cz_le (tgt := 17) (a := s.1 142 (s.1 139 28)) (b := 24) eX11_hints_11 (by decide) (ofz (hA _ _)) (ofz (r32l rfl)) (fun c11 => ?_) (fun c11 => ?_)
  · have h := h.1 c11
    refine q_aload_n eX11_hints_17 rfl ?_
    refine q_V0 (ci := 11) (n := 0) eX11_hints_18 DX11_findHints lX11_557 rfl (by decide) rfl rfl rfl rfl (h.1 hA) ?_
    rintro _ _ ⟨s2, rfl, hA2, rfl, h⟩
    refine q_aload_n eX11_hints_21 rfl ?_
    refine q_getf (c := 11) (n := 0) (k := 70) (v := .int (Int32.ofInt (s2.1 139 70))) eX11_hints_22 rfl (by decide) (by decide) fX11_542 rfl ?_
    exact q_iret eX11_hints_25 rfl ⟨_, _, rfl, hA2, (hA2 _ _), rfl, h⟩
  · have h := h.2 c11
    refine q_bi (v := Int32.ofInt (-2)) eX11_hints_14 rfl ?_
    exact q_iret eX11_hints_16 rfl ⟨_, _, rfl, hA, (r32l rfl), rfl, h⟩
theorem eX11_hint_0 : decode cX11_hint 0 = .ok (.aload_n 0, 1) := by decide +kernel
theorem eX11_hint_1 : decode cX11_hint 1 = .ok (.getfield 20, 3) := by decide +kernel
theorem eX11_hint_4 : decode cX11_hint 4 = .ok (.aload_n 0, 1) := by decide +kernel
theorem eX11_hint_5 : decode cX11_hint 5 = .ok (.getfield 321, 3) := by decide +kernel
theorem eX11_hint_8 : decode cX11_hint 8 = .ok (.iaload, 1) := by decide +kernel
theorem eX11_hint_9 : decode cX11_hint 9 = .ok (.bipush 24, 2) := by decide +kernel
theorem eX11_hint_11 : decode cX11_hint 11 = .ok (.if_icmp .gt 7, 3) := by decide +kernel
theorem eX11_hint_14 : decode cX11_hint 14 = .ok (.iload_n 1, 1) := by decide +kernel
theorem eX11_hint_15 : decode cX11_hint 15 = .ok (.ifCond .ge 5, 3) := by decide +kernel
theorem eX11_hint_18 : decode cX11_hint 18 = .ok (.iconst (-1), 1) := by decide +kernel
theorem eX11_hint_19 : decode cX11_hint 19 = .ok (.ireturn, 1) := by decide +kernel
theorem eX11_hint_20 : decode cX11_hint 20 = .ok (.aload_n 0, 1) := by decide +kernel
theorem eX11_hint_21 : decode cX11_hint 21 = .ok (.invokevirtual 557, 3) := by decide +kernel
theorem eX11_hint_24 : decode cX11_hint 24 = .ok (.iload_n 1, 1) := by decide +kernel
theorem eX11_hint_25 : decode cX11_hint 25 = .ok (.aload_n 0, 1) := by decide +kernel
theorem eX11_hint_26 : decode cX11_hint 26 = .ok (.getfield 542, 3) := by decide +kernel
theorem eX11_hint_29 : decode cX11_hint 29 = .ok (.if_icmp .lt 5, 3) := by decide +kernel
theorem eX11_hint_32 : decode cX11_hint 32 = .ok (.iconst (-1), 1) := by decide +kernel
theorem eX11_hint_33 : decode cX11_hint 33 = .ok (.ireturn, 1) := by decide +kernel
theorem eX11_hint_34 : decode cX11_hint 34 = .ok (.iload_n 2, 1) := by decide +kernel
theorem eX11_hint_35 : decode cX11_hint 35 = .ok (.ifCond .ne 12, 3) := by decide +kernel
theorem eX11_hint_38 : decode cX11_hint 38 = .ok (.aload_n 0, 1) := by decide +kernel
theorem eX11_hint_39 : decode cX11_hint 39 = .ok (.getfield 152, 3) := by decide +kernel
theorem eX11_hint_42 : decode cX11_hint 42 = .ok (.iload_n 1, 1) := by decide +kernel
theorem eX11_hint_43 : decode cX11_hint 43 = .ok (.iaload, 1) := by decide +kernel
theorem eX11_hint_44 : decode cX11_hint 44 = .ok (.goto 32, 3) := by decide +kernel
theorem eX11_hint_47 : decode cX11_hint 47 = .ok (.iload_n 2, 1) := by decide +kernel
theorem eX11_hint_48 : decode cX11_hint 48 = .ok (.iconst 1, 1) := by decide +kernel
theorem eX11_hint_49 : decode cX11_hint 49 = .ok (.if_icmp .ne 12, 3) := by decide +kernel
theorem eX11_hint_52 : decode cX11_hint 52 = .ok (.aload_n 0, 1) := by decide +kernel
theorem eX11_hint_53 : decode cX11_hint 53 = .ok (.getfield 155, 3) := by decide +kernel
theorem eX11_hint_56 : decode cX11_hint 56 = .ok (.iload_n 1, 1) := by decide +kernel
theorem eX11_hint_57 : decode cX11_hint 57 = .ok (.iaload, 1) := by decide +kernel
theorem eX11_hint_58 : decode cX11_hint 58 = .ok (.goto 18, 3) := by decide +kernel
theorem eX11_hint_61 : decode cX11_hint 61 = .ok (.iload_n 2, 1) := by decide +kernel
theorem eX11_hint_62 : decode cX11_hint 62 = .ok (.iconst 2, 1) := by decide +kernel
theorem eX11_hint_63 : decode cX11_hint 63 = .ok (.if_icmp .ne 12, 3) := by decide +kernel
theorem eX11_hint_66 : decode cX11_hint 66 = .ok (.aload_n 0, 1) := by decide +kernel
theorem eX11_hint_67 : decode cX11_hint 67 = .ok (.getfield 158, 3) := by decide +kernel
theorem eX11_hint_70 : decode cX11_hint 70 = .ok (.iload_n 1, 1) := by decide +kernel
theorem eX11_hint_71 : decode cX11_hint 71 = .ok (.iaload, 1) := by decide +kernel
theorem eX11_hint_72 : decode cX11_hint 72 = .ok (.goto 4, 3) := by decide +kernel
theorem eX11_hint_75 : decode cX11_hint 75 = .ok (.iconst (-1), 1) := by decide +kernel
theorem eX11_hint_76 : decode cX11_hint 76 = .ok (.ireturn, 1) := by decide +kernel
def C_X11_hint (s : ST) (p : Int) (q : Int) (Q : ST → Int → Prop) : Prop := bx <| RA s → R32 p → R32 q → q_met mX11_hint (qs layM s) [.ref 139, .int (Int32.ofInt p), .int (Int32.ofInt q)] (PI layM Q)
theorem C_X11_hint.mono {s : ST} {p : Int} {q : Int} {Q Q' : ST → Int → Prop} (h : C_X11_hint s p q Q) (hq : ∀ s v, Q s v → Q' s v) : C_X11_hint s p q Q' := ⟨fun hA hrp hrq => q_met.mono (h.1 hA hrp hrq) (fun _ _ => PI.mono hq), trivial⟩
set_option maxRecDepth 20000 in
theorem s_X11_hint {s : ST} {p : Int} {q : Int} {Q : ST → Int → Prop} (h : RA s → R32 p → R32 q → (((0 : Int) ≤ s.1 139 28 ∧ s.1 139 28 < 6) ∧ ((24 < s.1 142 (s.1 139 28) → Q s (-1)) ∧ (¬ 24 < s.1 142 (s.1 139 28) → ((0 ≤ p → (C_X11_findHints s (fun s2 => ((p < s2.1 139 70 → ((¬ q = 0 → ((¬ q = 1 → ((¬ q = 2 → Q s2 (-1)) ∧ (q = 2 → (((0 : Int) ≤ p ∧ p < 40) ∧ Q s2 (s2.1 186 p))))) ∧ (q = 1 → (((0 : Int) ≤ p ∧ p < 40) ∧ Q s2 (s2.1 185 p))))) ∧ (q = 0 → (((0 : Int) ≤ p ∧ p < 40) ∧ Q s2 (s2.1 184 p))))) ∧ (¬ p < s2.1 139 70 → Q s2 (-1)))))) ∧ (¬ 0 ≤ p → Q s (-1))))))) : C_X11_hint s p q Q := by
  refine ⟨?_, trivial⟩
  intro hA hrp hrq
  have h := h hA hrp hrq
  refine q_enter (by decide) (Nat.le_of_ble_eq_true rfl) ?_
  refine q_aload_n eX11_hint_0 rfl ?_
  refine q_getR (c := 11) (n := 0) (k := 11) (a := 142) eX11_hint_1 rfl (by decide) (by decide) fX11_20 rfl rfl ?_
  refine q_aload_n eX11_hint_4 rfl ?_
  refine q_getf (c := 11) (n := 0) (k := 28) (v := .int (Int32.ofInt (s.1 139 28))) eX11_hint_5 rfl (by decide) (by decide) fX11_321 rfl ?_
  have f1 := h.1
  have h := h.2
  refine z_iald (n := 6) eX11_hint_8 rfl (ofz (hA _ _)) f1 ?_
  refine q_topI (v := Int32.ofInt (s.1 142 (s.1 139 28))) rfl ?_
  refine q_bi (v := Int32.ofInt 24) eX11_hint_9 rfl ?_
  refine q_cz_gt (tgt := 18) (a := s.1 142 (s.1 139 28)) (b := 24) eX11_hint_11 (by decide) (ofz (hA _ _)) (ofz (r32l rfl)) (fun c11 => ?_) (fun c11 => ?_)
  · have h := h.1 c11
    refine q_ic (v := Int32.ofInt (-1)) eX11_hint_18 rfl ?_
    exact q_iret eX11_hint_19 rfl ⟨_, _, rfl, hA, (r32l rfl), rfl, h⟩
  · have h := h.2 c11
    refine q_iload_n eX11_hint_14 rfl ?_
    refine q_iz_ge (tgt := 20) (a := p) eX11_hint_15 (by decide) (ofz hrp) (fun c15 => ?_) (fun c15 => ?_)
    · have h := h.1 c15
      refine q_aload_n eX11_hint_20 rfl ?_
      refine q_V0 (ci := 11) (n := 0) eX11_hint_21 DX11_findHints lX11_557 rfl (by decide) rfl rfl rfl rfl (h.1 hA) ?_
      rintro _ _ ⟨s2, rfl, hA2, rfl, h⟩
      refine q_iload_n eX11_hint_24 rfl ?_
      refine q_aload_n eX11_hint_25 rfl ?_
      refine q_getf (c := 11) (n := 0) (k := 70) (v := .int (Int32.ofInt (s2.1 139 70))) eX11_hint_26 rfl (by decide) (by decide) fX11_542 rfl ?_
      refine q_cz_lt (tgt := 34) (a := p) (b := s2.1 139 70) eX11_hint_29 (by decide) (ofz hrp) (ofz (hA2 _ _)) (fun c29 => ?_) (fun c29 => ?_)
      · have h := h.1 c29
        refine q_iload_n eX11_hint_34 rfl ?_
        refine q_iz_ne (tgt := 47) (a := q) eX11_hint_35 (by decide) (ofz hrq) (fun c35 => ?_) (fun c35 => ?_)
        · have h := h.1 c35
          refine q_iload_n eX11_hint_47 rfl ?_
          refine q_ic (v := Int32.ofInt 1) eX11_hint_48 rfl ?_
          refine q_cz_ne (tgt := 61) (a := q) (b := 1) eX11_hint_49 (by decide) (ofz hrq) (ofz (r32l rfl)) (fun c49 => ?_) (fun c49 => ?_)
          · have h := h.1 c49
            refine q_iload_n eX11_hint_61 rfl ?_
            refine q_ic (v := Int32.ofInt 2) eX11_hint_62 rfl ?_
            refine q_cz_ne (tgt := 75) (a := q) (b := 2) eX11_hint_63 (by decide) (ofz hrq) (ofz (r32l rfl)) (fun c63 => ?_) (fun c63 => ?_)
            · have h := h.1 c63
              refine q_ic (v := Int32.ofInt (-1)) eX11_hint_75 rfl ?_
              exact q_iret eX11_hint_76 rfl ⟨_, _, rfl, hA2, (r32l rfl), rfl, h⟩
            · have h := h.2 c63
              refine q_aload_n eX11_hint_66 rfl ?_
              refine q_getR (c := 11) (n := 0) (k := 68) (a := 186) eX11_hint_67 rfl (by decide) (by decide) fX11_158 rfl rfl ?_
              refine q_iload_n eX11_hint_70 rfl ?_
              have f3 := h.1
              have h := h.2
              refine z_iald (n := 40) eX11_hint_71 rfl (ofz hrp) f3 ?_
              refine q_topI (v := Int32.ofInt (s2.1 186 p)) rfl ?_
              refine q_goto (tgt := 76) eX11_hint_72 (by decide) ?_
              exact q_iret eX11_hint_76 rfl ⟨_, _, rfl, hA2, (hA2 _ _), rfl, h⟩
          · have h := h.2 c49
            refine q_aload_n eX11_hint_52 rfl ?_
            refine q_getR (c := 11) (n := 0) (k := 67) (a := 185) eX11_hint_53 rfl (by decide) (by decide) fX11_155 rfl rfl ?_
            refine q_iload_n eX11_hint_56 rfl ?_
            have f4 := h.1
            have h := h.2
            refine z_iald (n := 40) eX11_hint_57 rfl (ofz hrp) f4 ?_
            refine q_topI (v := Int32.ofInt (s2.1 185 p)) rfl ?_
            refine q_goto (tgt := 76) eX11_hint_58 (by decide) ?_
            exact q_iret eX11_hint_76 rfl ⟨_, _, rfl, hA2, (hA2 _ _), rfl, h⟩
        · have h := h.2 c35
          refine q_aload_n eX11_hint_38 rfl ?_
          refine q_getR (c := 11) (n := 0) (k := 66) (a := 184) eX11_hint_39 rfl (by decide) (by decide) fX11_152 rfl rfl ?_
          refine q_iload_n eX11_hint_42 rfl ?_
          have f5 := h.1
          have h := h.2
          refine z_iald (n := 40) eX11_hint_43 rfl (ofz hrp) f5 ?_
          refine q_topI (v := Int32.ofInt (s2.1 184 p)) rfl ?_
          refine q_goto (tgt := 76) eX11_hint_44 (by decide) ?_
          exact q_iret eX11_hint_76 rfl ⟨_, _, rfl, hA2, (hA2 _ _), rfl, h⟩
      · have h := h.2 c29
        refine q_ic (v := Int32.ofInt (-1)) eX11_hint_32 rfl ?_
        exact q_iret eX11_hint_33 rfl ⟨_, _, rfl, hA2, (r32l rfl), rfl, h⟩
    · have h := h.2 c15
      refine q_ic (v := Int32.ofInt (-1)) eX11_hint_18 rfl ?_
      exact q_iret eX11_hint_19 rfl ⟨_, _, rfl, hA, (r32l rfl), rfl, h⟩
theorem eX11_copyPlace_0 : decode cX11_copyPlace 0 = .ok (.aload_n 0, 1) := by decide +kernel
theorem eX11_copyPlace_1 : decode cX11_copyPlace 1 = .ok (.getfield 33, 3) := by decide +kernel
theorem eX11_copyPlace_4 : decode cX11_copyPlace 4 = .ok (.iload_n 2, 1) := by decide +kernel
theorem eX11_copyPlace_5 : decode cX11_copyPlace 5 = .ok (.aload_n 0, 1) := by decide +kernel
theorem eX11_copyPlace_6 : decode cX11_copyPlace 6 = .ok (.getfield 33, 3) := by decide +kernel
theorem eX11_copyPlace_9 : decode cX11_copyPlace 9 = .ok (.iload_n 1, 1) := by decide +kernel
theorem eX11_copyPlace_10 : decode cX11_copyPlace 10 = .ok (.iaload, 1) := by decide +kernel
theorem eX11_copyPlace_11 : decode cX11_copyPlace 11 = .ok (.iastore, 1) := by decide +kernel
theorem eX11_copyPlace_12 : decode cX11_copyPlace 12 = .ok (.aload_n 0, 1) := by decide +kernel
theorem eX11_copyPlace_13 : decode cX11_copyPlace 13 = .ok (.getfield 36, 3) := by decide +kernel
theorem eX11_copyPlace_16 : decode cX11_copyPlace 16 = .ok (.iload_n 2, 1) := by decide +kernel
theorem eX11_copyPlace_17 : decode cX11_copyPlace 17 = .ok (.aload_n 0, 1) := by decide +kernel
theorem eX11_copyPlace_18 : decode cX11_copyPlace 18 = .ok (.getfield 36, 3) := by decide +kernel
theorem eX11_copyPlace_21 : decode cX11_copyPlace 21 = .ok (.iload_n 1, 1) := by decide +kernel
theorem eX11_copyPlace_22 : decode cX11_copyPlace 22 = .ok (.iaload, 1) := by decide +kernel
theorem eX11_copyPlace_23 : decode cX11_copyPlace 23 = .ok (.iastore, 1) := by decide +kernel
theorem eX11_copyPlace_24 : decode cX11_copyPlace 24 = .ok (.aload_n 0, 1) := by decide +kernel
theorem eX11_copyPlace_25 : decode cX11_copyPlace 25 = .ok (.getfield 39, 3) := by decide +kernel
theorem eX11_copyPlace_28 : decode cX11_copyPlace 28 = .ok (.iload_n 2, 1) := by decide +kernel
theorem eX11_copyPlace_29 : decode cX11_copyPlace 29 = .ok (.aload_n 0, 1) := by decide +kernel
theorem eX11_copyPlace_30 : decode cX11_copyPlace 30 = .ok (.getfield 39, 3) := by decide +kernel
theorem eX11_copyPlace_33 : decode cX11_copyPlace 33 = .ok (.iload_n 1, 1) := by decide +kernel
theorem eX11_copyPlace_34 : decode cX11_copyPlace 34 = .ok (.iaload, 1) := by decide +kernel
theorem eX11_copyPlace_35 : decode cX11_copyPlace 35 = .ok (.iastore, 1) := by decide +kernel
theorem eX11_copyPlace_36 : decode cX11_copyPlace 36 = .ok (.aload_n 0, 1) := by decide +kernel
theorem eX11_copyPlace_37 : decode cX11_copyPlace 37 = .ok (.getfield 42, 3) := by decide +kernel
theorem eX11_copyPlace_40 : decode cX11_copyPlace 40 = .ok (.iload_n 2, 1) := by decide +kernel
theorem eX11_copyPlace_41 : decode cX11_copyPlace 41 = .ok (.aload_n 0, 1) := by decide +kernel
theorem eX11_copyPlace_42 : decode cX11_copyPlace 42 = .ok (.getfield 42, 3) := by decide +kernel
theorem eX11_copyPlace_45 : decode cX11_copyPlace 45 = .ok (.iload_n 1, 1) := by decide +kernel
theorem eX11_copyPlace_46 : decode cX11_copyPlace 46 = .ok (.iaload, 1) := by decide +kernel
theorem eX11_copyPlace_47 : decode cX11_copyPlace 47 = .ok (.iastore, 1) := by decide +kernel
theorem eX11_copyPlace_48 : decode cX11_copyPlace 48 = .ok (.aload_n 0, 1) := by decide +kernel
theorem eX11_copyPlace_49 : decode cX11_copyPlace 49 = .ok (.getfield 45, 3) := by decide +kernel
theorem eX11_copyPlace_52 : decode cX11_copyPlace 52 = .ok (.iload_n 2, 1) := by decide +kernel
theorem eX11_copyPlace_53 : decode cX11_copyPlace 53 = .ok (.aload_n 0, 1) := by decide +kernel
theorem eX11_copyPlace_54 : decode cX11_copyPlace 54 = .ok (.getfield 45, 3) := by decide +kernel
theorem eX11_copyPlace_57 : decode cX11_copyPlace 57 = .ok (.iload_n 1, 1) := by decide +kernel
theorem eX11_copyPlace_58 : decode cX11_copyPlace 58 = .ok (.iaload, 1) := by decide +kernel
theorem eX11_copyPlace_59 : decode cX11_copyPlace 59 = .ok (.iastore, 1) := by decide +kernel
theorem eX11_copyPlace_60 : decode cX11_copyPlace 60 = .ok (.aload_n 0, 1) := by decide +kernel
theorem eX11_copyPlace_61 : decode cX11_copyPlace 61 = .ok (.getfield 48, 3) := by decide +kernel
theorem eX11_copyPlace_64 : decode cX11_copyPlace 64 = .ok (.iload_n 2, 1) := by decide +kernel
theorem eX11_copyPlace_65 : decode cX11_copyPlace 65 = .ok (.aload_n 0, 1) := by decide +kernel
theorem eX11_copyPlace_66 : decode cX11_copyPlace 66 = .ok (.getfield 48, 3) := by decide +kernel
theorem eX11_copyPlace_69 : decode cX11_copyPlace 69 = .ok (.iload_n 1, 1) := by decide +kernel
theorem eX11_copyPlace_70 : decode cX11_copyPlace 70 = .ok (.iaload, 1) := by decide +kernel
theorem eX11_copyPlace_71 : decode cX11_copyPlace 71 = .ok (.iastore, 1) := by decide +kernel
theorem eX11_copyPlace_72 : decode cX11_copyPlace 72 = .ok (.aload_n 0, 1) := by decide +kernel
theorem eX11_copyPlace_73 : decode cX11_copyPlace 73 = .ok (.getfield 54, 3) := by decide +kernel
theorem eX11_copyPlace_76 : decode cX11_copyPlace 76 = .ok (.iload_n 2, 1) := by decide +kernel
theorem eX11_copyPlace_77 : decode cX11_copyPlace 77 = .ok (.aload_n 0, 1) := by decide +kernel
theorem eX11_copyPlace_78 : decode cX11_copyPlace 78 = .ok (.getfield 54, 3) := by decide +kernel
theorem eX11_copyPlace_81 : decode cX11_copyPlace 81 = .ok (.iload_n 1, 1) := by decide +kernel
theorem eX11_copyPlace_82 : decode cX11_copyPlace 82 = .ok (.iaload, 1) := by decide +kernel
theorem eX11_copyPlace_83 : decode cX11_copyPlace 83 = .ok (.iastore, 1) := by decide +kernel
theorem eX11_copyPlace_84 : decode cX11_copyPlace 84 = .ok (.aload_n 0, 1) := by decide +kernel
theorem eX11_copyPlace_85 : decode cX11_copyPlace 85 = .ok (.getfield 57, 3) := by decide +kernel
theorem eX11_copyPlace_88 : decode cX11_copyPlace 88 = .ok (.iload_n 2, 1) := by decide +kernel
theorem eX11_copyPlace_89 : decode cX11_copyPlace 89 = .ok (.aload_n 0, 1) := by decide +kernel
theorem eX11_copyPlace_90 : decode cX11_copyPlace 90 = .ok (.getfield 57, 3) := by decide +kernel
theorem eX11_copyPlace_93 : decode cX11_copyPlace 93 = .ok (.iload_n 1, 1) := by decide +kernel
theorem eX11_copyPlace_94 : decode cX11_copyPlace 94 = .ok (.iaload, 1) := by decide +kernel
theorem eX11_copyPlace_95 : decode cX11_copyPlace 95 = .ok (.iastore, 1) := by decide +kernel
theorem eX11_copyPlace_96 : decode cX11_copyPlace 96 = .ok (.aload_n 0, 1) := by decide +kernel
theorem eX11_copyPlace_97 : decode cX11_copyPlace 97 = .ok (.getfield 60, 3) := by decide +kernel
theorem eX11_copyPlace_100 : decode cX11_copyPlace 100 = .ok (.iload_n 2, 1) := by decide +kernel
theorem eX11_copyPlace_101 : decode cX11_copyPlace 101 = .ok (.aload_n 0, 1) := by decide +kernel
theorem eX11_copyPlace_102 : decode cX11_copyPlace 102 = .ok (.getfield 60, 3) := by decide +kernel
theorem eX11_copyPlace_105 : decode cX11_copyPlace 105 = .ok (.iload_n 1, 1) := by decide +kernel
theorem eX11_copyPlace_106 : decode cX11_copyPlace 106 = .ok (.iaload, 1) := by decide +kernel
theorem eX11_copyPlace_107 : decode cX11_copyPlace 107 = .ok (.iastore, 1) := by decide +kernel
theorem eX11_copyPlace_108 : decode cX11_copyPlace 108 = .ok (.aload_n 0, 1) := by decide +kernel
theorem eX11_copyPlace_109 : decode cX11_copyPlace 109 = .ok (.getfield 70, 3) := by decide +kernel
theorem eX11_copyPlace_112 : decode cX11_copyPlace 112 = .ok (.iload_n 2, 1) := by decide +kernel
theorem eX11_copyPlace_113 : decode cX11_copyPlace 113 = .ok (.aload_n 0, 1) := by decide +kernel
theorem eX11_copyPlace_114 : decode cX11_copyPlace 114 = .ok (.getfield 70, 3) := by decide +kernel
theorem eX11_copyPlace_117 : decode cX11_copyPlace 117 = .ok (.iload_n 1, 1) := by decide +kernel
theorem eX11_copyPlace_118 : decode cX11_copyPlace 118 = .ok (.laload, 1) := by decide +kernel
theorem eX11_copyPlace_119 : decode cX11_copyPlace 119 = .ok (.lastore, 1) := by decide +kernel
theorem eX11_copyPlace_120 : decode cX11_copyPlace 120 = .ok (.iconst 0, 1) := by decide +kernel
theorem eX11_copyPlace_121 : decode cX11_copyPlace 121 = .ok (.istore_n 3, 1) := by decide +kernel
theorem eX11_copyPlace_122 : decode cX11_copyPlace 122 = .ok (.iload_n 3, 1) := by decide +kernel
theorem eX11_copyPlace_123 : decode cX11_copyPlace 123 = .ok (.iconst 3, 1) := by decide +kernel
theorem eX11_copyPlace_124 : decode cX11_copyPlace 124 = .ok (.if_icmp .ge 29, 3) := by decide +kernel
theorem eX11_copyPlace_127 : decode cX11_copyPlace 127 = .ok (.aload_n 0, 1) := by decide +kernel
theorem eX11_copyPlace_128 : decode cX11_copyPlace 128 = .ok (.getfield 51, 3) := by decide +kernel
theorem eX11_copyPlace_131 : decode cX11_copyPlace 131 = .ok (.iconst 3, 1) := by decide +kernel
theorem eX11_copyPlace_132 : decode cX11_copyPlace 132 = .ok (.iload_n 2, 1) := by decide +kernel
theorem eX11_copyPlace_133 : decode cX11_copyPlace 133 = .ok (.imul, 1) := by decide +kernel
theorem eX11_copyPlace_134 : decode cX11_copyPlace 134 = .ok (.iload_n 3, 1) := by decide +kernel
theorem eX11_copyPlace_135 : decode cX11_copyPlace 135 = .ok (.iadd, 1) := by decide +kernel
theorem eX11_copyPlace_136 : decode cX11_copyPlace 136 = .ok (.aload_n 0, 1) := by decide +kernel
theorem eX11_copyPlace_137 : decode cX11_copyPlace 137 = .ok (.getfield 51, 3) := by decide +kernel
theorem eX11_copyPlace_140 : decode cX11_copyPlace 140 = .ok (.iconst 3, 1) := by decide +kernel
theorem eX11_copyPlace_141 : decode cX11_copyPlace 141 = .ok (.iload_n 1, 1) := by decide +kernel
theorem eX11_copyPlace_142 : decode cX11_copyPlace 142 = .ok (.imul, 1) := by decide +kernel
theorem eX11_copyPlace_143 : decode cX11_copyPlace 143 = .ok (.iload_n 3, 1) := by decide +kernel
theorem eX11_copyPlace_144 : decode cX11_copyPlace 144 = .ok (.iadd, 1) := by decide +kernel
theorem eX11_copyPlace_145 : decode cX11_copyPlace 145 = .ok (.iaload, 1) := by decide +kernel
theorem eX11_copyPlace_146 : decode cX11_copyPlace 146 = .ok (.iastore, 1) := by decide +kernel
theorem eX11_copyPlace_147 : decode cX11_copyPlace 147 = .ok (.iinc 3 1, 3) := by decide +kernel
theorem eX11_copyPlace_150 : decode cX11_copyPlace 150 = .ok (.goto (-28), 3) := by decide +kernel
theorem eX11_copyPlace_153 : decode cX11_copyPlace 153 = .ok (.return_, 1) := by decide +kernel
def C_X11_copyPlace (s : ST) (p : Int) (q : Int) (Q : ST → Prop) : Prop := bx <| RA s → R32 p → R32 q → q_met mX11_copyPlace (qs layM s) [.ref 139, .int (Int32.ofInt p), .int (Int32.ofInt q)] (PV layM Q)
theorem C_X11_copyPlace.mono {s : ST} {p : Int} {q : Int} {Q Q' : ST → Prop} (h : C_X11_copyPlace s p q Q) (hq : ∀ s, Q s → Q' s) : C_X11_copyPlace s p q Q' := ⟨fun hA hrp hrq => q_met.mono (h.1 hA hrp hrq) (fun _ _ => PV.mono hq), trivial⟩
def K_X11_copyPlace_122 (s : ST) (a1 : Int) (a2 : Int) (a3 : Int) (Q : ST → Prop) : Prop := bx <| RA s → R32 a1 → R32 a2 → R32 a3 → q_K mX11_copyPlace (qs layM s) 0 0 122 [(0, .ref 139), (1, .int (Int32.ofInt a1)), (2, .int (Int32.ofInt a2)), (3, .int (Int32.ofInt a3))] [] (q_fin mX11_copyPlace (PV layM Q))
set_option maxRecDepth 20000 in
theorem s_X11_copyPlace_122 {s : ST} {a1 : Int} {a2 : Int} {a3 : Int} {Q : ST → Prop} (h : RA s → R32 a1 → R32 a2 → R32 a3 → ((3 ≤ a3 → Q s) ∧ (¬ 3 ≤ a3 → (R32 (3 * a2) ∧ (R32 ((3 * a2) + a3) ∧ (R32 (3 * a1) ∧ (R32 ((3 * a1) + a3) ∧ (((0 : Int) ≤ ((3 * a1) + a3) ∧ ((3 * a1) + a3) < 720) ∧ (((0 : Int) ≤ ((3 * a2) + a3) ∧ ((3 * a2) + a3) < 720) ∧ (R32 (a3 + 1) ∧ K_X11_copyPlace_122 (ui s 152 ((3 * a2) + a3) (s.1 152 ((3 * a1) + a3))) a1 a2 (a3 + 1) Q)))))))))) : K_X11_copyPlace_122 s a1 a2 a3 Q := by
  refine ⟨?_, trivial⟩
  intro hA hra1 hra2 hra3
  have h := h hA hra1 hra2 hra3
  refine q_iload_n eX11_copyPlace_122 rfl ?_
  refine q_ic (v := Int32.ofInt 3) eX11_copyPlace_123 rfl ?_
  refine q_cz_ge (tgt := 153) (a := a3) (b := 3) eX11_copyPlace_124 (by decide) (ofz hra3) (ofz (r32l rfl)) (fun c124 => ?_) (fun c124 => ?_)
  · have h := h.1 c124
    exact q_ret eX11_copyPlace_153 rfl ⟨_, rfl, hA, rfl, h⟩
  · have h := h.2 c124
    refine q_aload_n eX11_copyPlace_127 rfl ?_
    refine q_getR (c := 11) (n := 0) (k := 21) (a := 152) eX11_copyPlace_128 rfl (by decide) (by decide) fX11_51 rfl rfl ?_
    refine q_ic (v := Int32.ofInt 3) eX11_copyPlace_131 rfl ?_
    refine q_iload_n eX11_copyPlace_132 rfl ?_
    refine z_imul eX11_copyPlace_133 ?_
    have r1 := h.1
    have h := h.2
    refine q_iload_n eX11_copyPlace_134 rfl ?_
    refine z_iadd eX11_copyPlace_135 ?_
    have r2 := h.1
    have h := h.2
    refine q_aload_n eX11_copyPlace_136 rfl ?_
    refine q_getR (c := 11) (n := 0) (k := 21) (a := 152) eX11_copyPlace_137 rfl (by decide) (by decide) fX11_51 rfl rfl ?_
    refine q_ic (v := Int32.ofInt 3) eX11_copyPlace_140 rfl ?_
    refine q_iload_n eX11_copyPlace_141 rfl ?_
    refine z_imul eX11_copyPlace_142 ?_
    have r3 := h.1
    have h := h.2
    refine q_iload_n eX11_copyPlace_143 rfl ?_
    refine z_iadd eX11_copyPlace_144 ?_
    have r4 := h.1
    have h := h.2
    have f5 := h.1
    have h := h.2
    refine z_iald (n := 720) eX11_copyPlace_145 rfl (ofz r4) f5 ?_
    refine q_topI (v := Int32.ofInt (s.1 152 ((3 * a1) + a3))) rfl ?_
    have f6 := h.1
    have h := h.2
    refine z_iast (n := 720) eX11_copyPlace_146 rfl (ofz r2) f6  ?_
    have r7 := h.1
    have h := h.2
    refine z_inc (m := 1) eX11_copyPlace_147 rfl (Nat.le_of_ble_eq_true rfl) rfl ?_
    refine q_goto (tgt := 122) eX11_copyPlace_150 (by decide) ?_
    exact q_subL rfl (h.1 (ra_ui hA (hA _ _)) hra1 hra2 r7)
set_option maxRecDepth 20000 in
theorem s_X11_copyPlace {s : ST} {p : Int} {q : Int} {Q : ST → Prop} (h : RA s → R32 p → R32 q → (((0 : Int) ≤ p ∧ p < 240) ∧ (((0 : Int) ≤ q ∧ q < 240) ∧ K_X11_copyPlace_122 (uj (ui (ui (ui (ui (ui (ui (ui (ui (ui s 146 q (s.1 146 p)) 147 q (s.1 147 p)) 148 q (s.1 148 p)) 149 q (s.1 149 p)) 150 q (s.1 150 p)) 151 q (s.1 151 p)) 153 q (s.1 153 p)) 154 q (s.1 154 p)) 155 q (s.1 155 p)) 158 q (s.2 158 p)) p q 0 Q))) : C_X11_copyPlace s p q Q := by
  refine ⟨?_, trivial⟩
  intro hA hrp hrq
  have h := h hA hrp hrq
  refine q_enter (by decide) (Nat.le_of_ble_eq_true rfl) ?_
  refine q_aload_n eX11_copyPlace_0 rfl ?_
  refine q_getR (c := 11) (n := 0) (k := 15) (a := 146) eX11_copyPlace_1 rfl (by decide) (by decide) fX11_33 rfl rfl ?_
  refine q_iload_n eX11_copyPlace_4 rfl ?_
  refine q_aload_n eX11_copyPlace_5 rfl ?_
  refine q_getR (c := 11) (n := 0) (k := 15) (a := 146) eX11_copyPlace_6 rfl (by decide) (by decide) fX11_33 rfl rfl ?_
  refine q_iload_n eX11_copyPlace_9 rfl ?_
  have f1 := h.1
  have h := h.2
  refine z_iald (n := 240) eX11_copyPlace_10 rfl (ofz hrp) f1 ?_
  refine q_topI (v := Int32.ofInt (s.1 146 p)) rfl ?_
  have f2 := h.1
  have h := h.2
  refine z_iast (n := 240) eX11_copyPlace_11 rfl (ofz hrq) f2  ?_
  refine q_aload_n eX11_copyPlace_12 rfl ?_
  refine q_getR (c := 11) (n := 0) (k := 16) (a := 147) eX11_copyPlace_13 rfl (by decide) (by decide) fX11_36 rfl rfl ?_
  refine q_iload_n eX11_copyPlace_16 rfl ?_
  refine q_aload_n eX11_copyPlace_17 rfl ?_
  refine q_getR (c := 11) (n := 0) (k := 16) (a := 147) eX11_copyPlace_18 rfl (by decide) (by decide) fX11_36 rfl rfl ?_
  refine q_iload_n eX11_copyPlace_21 rfl ?_
  refine z_iald (n := 240) eX11_copyPlace_22 rfl (ofz hrp) f1 ?_
  refine q_topI (v := Int32.ofInt (s.1 147 p)) rfl ?_
  refine z_iast (n := 240) eX11_copyPlace_23 rfl (ofz hrq) f2  ?_
  refine q_aload_n eX11_copyPlace_24 rfl ?_
  refine q_getR (c := 11) (n := 0) (k := 17) (a := 148) eX11_copyPlace_25 rfl (by decide) (by decide) fX11_39 rfl rfl ?_
  refine q_iload_n eX11_copyPlace_28 rfl ?_
  refine q_aload_n eX11_copyPlace_29 rfl ?_
  refine q_getR (c := 11) (n := 0) (k := 17) (a := 148) eX11_copyPlace_30 rfl (by decide) (by decide) fX11_39 rfl rfl ?_
  refine q_iload_n eX11_copyPlace_33 rfl ?_
  refine z_iald (n := 240) eX11_copyPlace_34 rfl (ofz hrp) f1 ?_
  refine q_topI (v := Int32.ofInt (s.1 148 p)) rfl ?_
  refine z_iast (n := 240) eX11_copyPlace_35 rfl (ofz hrq) f2  ?_
  refine q_aload_n eX11_copyPlace_36 rfl ?_
  refine q_getR (c := 11) (n := 0) (k := 18) (a := 149) eX11_copyPlace_37 rfl (by decide) (by decide) fX11_42 rfl rfl ?_
  refine q_iload_n eX11_copyPlace_40 rfl ?_
  refine q_aload_n eX11_copyPlace_41 rfl ?_
  refine q_getR (c := 11) (n := 0) (k := 18) (a := 149) eX11_copyPlace_42 rfl (by decide) (by decide) fX11_42 rfl rfl ?_
  refine q_iload_n eX11_copyPlace_45 rfl ?_
  refine z_iald (n := 240) eX11_copyPlace_46 rfl (ofz hrp) f1 ?_
  refine q_topI (v := Int32.ofInt (s.1 149 p)) rfl ?_
  refine z_iast (n := 240) eX11_copyPlace_47 rfl (ofz hrq) f2  ?_
  refine q_aload_n eX11_copyPlace_48 rfl ?_
  refine q_getR (c := 11) (n := 0) (k := 19) (a := 150) eX11_copyPlace_49 rfl (by decide) (by decide) fX11_45 rfl rfl ?_
  refine q_iload_n eX11_copyPlace_52 rfl ?_
  refine q_aload_n eX11_copyPlace_53 rfl ?_
  refine q_getR (c := 11) (n := 0) (k := 19) (a := 150) eX11_copyPlace_54 rfl (by decide) (by decide) fX11_45 rfl rfl ?_
  refine q_iload_n eX11_copyPlace_57 rfl ?_
  refine z_iald (n := 240) eX11_copyPlace_58 rfl (ofz hrp) f1 ?_
  refine q_topI (v := Int32.ofInt (s.1 150 p)) rfl ?_
  refine z_iast (n := 240) eX11_copyPlace_59 rfl (ofz hrq) f2  ?_
  refine q_aload_n eX11_copyPlace_60 rfl ?_
  refine q_getR (c := 11) (n := 0) (k := 20) (a := 151) eX11_copyPlace_61 rfl (by decide) (by decide) fX11_48 rfl rfl ?_
  refine q_iload_n eX11_copyPlace_64 rfl ?_
  refine q_aload_n eX11_copyPlace_65 rfl ?_
  refine q_getR (c := 11) (n := 0) (k := 20) (a := 151) eX11_copyPlace_66 rfl (by decide) (by decide) fX11_48 rfl rfl ?_
  refine q_iload_n eX11_copyPlace_69 rfl ?_
  refine z_iald (n := 240) eX11_copyPlace_70 rfl (ofz hrp) f1 ?_
  refine q_topI (v := Int32.ofInt (s.1 151 p)) rfl ?_
  refine z_iast (n := 240) eX11_copyPlace_71 rfl (ofz hrq) f2  ?_
  refine q_aload_n eX11_copyPlace_72 rfl ?_
  refine q_getR (c := 11) (n := 0) (k := 22) (a := 153) eX11_copyPlace_73 rfl (by decide) (by decide) fX11_54 rfl rfl ?_
  refine q_iload_n eX11_copyPlace_76 rfl ?_
  refine q_aload_n eX11_copyPlace_77 rfl ?_
  refine q_getR (c := 11) (n := 0) (k := 22) (a := 153) eX11_copyPlace_78 rfl (by decide) (by decide) fX11_54 rfl rfl ?_
  refine q_iload_n eX11_copyPlace_81 rfl ?_
  refine z_iald (n := 240) eX11_copyPlace_82 rfl (ofz hrp) f1 ?_
  refine q_topI (v := Int32.ofInt (s.1 153 p)) rfl ?_
  refine z_iast (n := 240) eX11_copyPlace_83 rfl (ofz hrq) f2  ?_
  refine q_aload_n eX11_copyPlace_84 rfl ?_
  refine q_getR (c := 11) (n := 0) (k := 23) (a := 154) eX11_copyPlace_85 rfl (by decide) (by decide) fX11_57 rfl rfl ?_
  refine q_iload_n eX11_copyPlace_88 rfl ?_
  refine q_aload_n eX11_copyPlace_89 rfl ?_
  refine q_getR (c := 11) (n := 0) (k := 23) (a := 154) eX11_copyPlace_90 rfl (by decide) (by decide) fX11_57 rfl rfl ?_
  refine q_iload_n eX11_copyPlace_93 rfl ?_
  refine z_iald (n := 240) eX11_copyPlace_94 rfl (ofz hrp) f1 ?_
  refine q_topI (v := Int32.ofInt (s.1 154 p)) rfl ?_
  refine z_iast (n := 240) eX11_copyPlace_95 rfl (ofz hrq) f2  ?_
  refine q_aload_n eX11_copyPlace_96 rfl ?_
  refine q_getR (c := 11) (n := 0) (k := 24) (a := 155) eX11_copyPlace_97 rfl (by decide) (by decide) fX11_60 rfl rfl ?_
  refine q_iload_n eX11_copyPlace_100 rfl ?_
  refine q_aload_n eX11_copyPlace_101 rfl ?_
  refine q_getR (c := 11) (n := 0) (k := 24) (a := 155) eX11_copyPlace_102 rfl (by decide) (by decide) fX11_60 rfl rfl ?_
  refine q_iload_n eX11_copyPlace_105 rfl ?_
  refine z_iald (n := 240) eX11_copyPlace_106 rfl (ofz hrp) f1 ?_
  refine q_topI (v := Int32.ofInt (s.1 155 p)) rfl ?_
  refine z_iast (n := 240) eX11_copyPlace_107 rfl (ofz hrq) f2  ?_
  refine q_aload_n eX11_copyPlace_108 rfl ?_
  refine q_getR (c := 11) (n := 0) (k := 27) (a := 158) eX11_copyPlace_109 rfl (by decide) (by decide) fX11_70 rfl rfl ?_
  refine q_iload_n eX11_copyPlace_112 rfl ?_
  refine q_aload_n eX11_copyPlace_113 rfl ?_
  refine q_getR (c := 11) (n := 0) (k := 27) (a := 158) eX11_copyPlace_114 rfl (by decide) (by decide) fX11_70 rfl rfl ?_
  refine q_iload_n eX11_copyPlace_117 rfl ?_
  refine z_lald (n := 240) eX11_copyPlace_118 rfl (ofz hrp) f1 ?_
  refine q_topL (v := s.2 158 p) rfl ?_
  refine z_last (n := 240) eX11_copyPlace_119 rfl (ofz hrq) f2  ?_
  refine q_ic (v := Int32.ofInt 0) eX11_copyPlace_120 rfl ?_
  refine q_istore_n eX11_copyPlace_121 (Nat.le_of_ble_eq_true rfl) ?_
  exact q_subL rfl (h.1 (ra_uj (ra_ui (ra_ui (ra_ui (ra_ui (ra_ui (ra_ui (ra_ui (ra_ui (ra_ui hA (hA _ _)) (hA _ _)) (hA _ _)) (hA _ _)) (hA _ _)) (hA _ _)) (hA _ _)) (hA _ _)) (hA _ _))) hrp hrq (r32l rfl))
theorem eX11_copyBank_0 : decode cX11_copyBank 0 = .ok (.aload_n 0, 1) := by decide +kernel
theorem eX11_copyBank_1 : decode cX11_copyBank 1 = .ok (.getfield 20, 3) := by decide +kernel
theorem eX11_copyBank_4 : decode cX11_copyBank 4 = .ok (.iload_n 2, 1) := by decide +kernel
theorem eX11_copyBank_5 : decode cX11_copyBank 5 = .ok (.aload_n 0, 1) := by decide +kernel
theorem eX11_copyBank_6 : decode cX11_copyBank 6 = .ok (.getfield 20, 3) := by decide +kernel
theorem eX11_copyBank_9 : decode cX11_copyBank 9 = .ok (.iload_n 1, 1) := by decide +kernel
theorem eX11_copyBank_10 : decode cX11_copyBank 10 = .ok (.iaload, 1) := by decide +kernel
theorem eX11_copyBank_11 : decode cX11_copyBank 11 = .ok (.iastore, 1) := by decide +kernel
theorem eX11_copyBank_12 : decode cX11_copyBank 12 = .ok (.aload_n 0, 1) := by decide +kernel
theorem eX11_copyBank_13 : decode cX11_copyBank 13 = .ok (.getfield 24, 3) := by decide +kernel
theorem eX11_copyBank_16 : decode cX11_copyBank 16 = .ok (.iload_n 2, 1) := by decide +kernel
theorem eX11_copyBank_17 : decode cX11_copyBank 17 = .ok (.aload_n 0, 1) := by decide +kernel
theorem eX11_copyBank_18 : decode cX11_copyBank 18 = .ok (.getfield 24, 3) := by decide +kernel
theorem eX11_copyBank_21 : decode cX11_copyBank 21 = .ok (.iload_n 1, 1) := by decide +kernel
theorem eX11_copyBank_22 : decode cX11_copyBank 22 = .ok (.iaload, 1) := by decide +kernel
theorem eX11_copyBank_23 : decode cX11_copyBank 23 = .ok (.iastore, 1) := by decide +kernel
theorem eX11_copyBank_24 : decode cX11_copyBank 24 = .ok (.aload_n 0, 1) := by decide +kernel
theorem eX11_copyBank_25 : decode cX11_copyBank 25 = .ok (.getfield 27, 3) := by decide +kernel
theorem eX11_copyBank_28 : decode cX11_copyBank 28 = .ok (.iload_n 2, 1) := by decide +kernel
theorem eX11_copyBank_29 : decode cX11_copyBank 29 = .ok (.aload_n 0, 1) := by decide +kernel
theorem eX11_copyBank_30 : decode cX11_copyBank 30 = .ok (.getfield 27, 3) := by decide +kernel
theorem eX11_copyBank_33 : decode cX11_copyBank 33 = .ok (.iload_n 1, 1) := by decide +kernel
theorem eX11_copyBank_34 : decode cX11_copyBank 34 = .ok (.iaload, 1) := by decide +kernel
theorem eX11_copyBank_35 : decode cX11_copyBank 35 = .ok (.iastore, 1) := by decide +kernel
theorem eX11_copyBank_36 : decode cX11_copyBank 36 = .ok (.iconst 0, 1) := by decide +kernel
theorem eX11_copyBank_37 : decode cX11_copyBank 37 = .ok (.istore_n 3, 1) := by decide +kernel
theorem eX11_copyBank_38 : decode cX11_copyBank 38 = .ok (.iload_n 3, 1) := by decide +kernel
theorem eX11_copyBank_39 : decode cX11_copyBank 39 = .ok (.bipush 8, 2) := by decide +kernel
theorem eX11_copyBank_41 : decode cX11_copyBank 41 = .ok (.if_icmp .ge 53, 3) := by decide +kernel
theorem eX11_copyBank_44 : decode cX11_copyBank 44 = .ok (.aload_n 0, 1) := by decide +kernel
theorem eX11_copyBank_45 : decode cX11_copyBank 45 = .ok (.getfield 30, 3) := by decide +kernel
theorem eX11_copyBank_48 : decode cX11_copyBank 48 = .ok (.bipush 8, 2) := by decide +kernel
theorem eX11_copyBank_50 : decode cX11_copyBank 50 = .ok (.iload_n 2, 1) := by decide +kernel
theorem eX11_copyBank_51 : decode cX11_copyBank 51 = .ok (.imul, 1) := by decide +kernel
theorem eX11_copyBank_52 : decode cX11_copyBank 52 = .ok (.iload_n 3, 1) := by decide +kernel
theorem eX11_copyBank_53 : decode cX11_copyBank 53 = .ok (.iadd, 1) := by decide +kernel
theorem eX11_copyBank_54 : decode cX11_copyBank 54 = .ok (.aload_n 0, 1) := by decide +kernel
theorem eX11_copyBank_55 : decode cX11_copyBank 55 = .ok (.getfield 30, 3) := by decide +kernel
theorem eX11_copyBank_58 : decode cX11_copyBank 58 = .ok (.bipush 8, 2) := by decide +kernel
theorem eX11_copyBank_60 : decode cX11_copyBank 60 = .ok (.iload_n 1, 1) := by decide +kernel
theorem eX11_copyBank_61 : decode cX11_copyBank 61 = .ok (.imul, 1) := by decide +kernel
theorem eX11_copyBank_62 : decode cX11_copyBank 62 = .ok (.iload_n 3, 1) := by decide +kernel
theorem eX11_copyBank_63 : decode cX11_copyBank 63 = .ok (.iadd, 1) := by decide +kernel
theorem eX11_copyBank_64 : decode cX11_copyBank 64 = .ok (.iaload, 1) := by decide +kernel
theorem eX11_copyBank_65 : decode cX11_copyBank 65 = .ok (.iastore, 1) := by decide +kernel
theorem eX11_copyBank_66 : decode cX11_copyBank 66 = .ok (.aload_n 0, 1) := by decide +kernel
theorem eX11_copyBank_67 : decode cX11_copyBank 67 = .ok (.getfield 66, 3) := by decide +kernel
theorem eX11_copyBank_70 : decode cX11_copyBank 70 = .ok (.bipush 8, 2) := by decide +kernel
theorem eX11_copyBank_72 : decode cX11_copyBank 72 = .ok (.iload_n 2, 1) := by decide +kernel
theorem eX11_copyBank_73 : decode cX11_copyBank 73 = .ok (.imul, 1) := by decide +kernel
theorem eX11_copyBank_74 : decode cX11_copyBank 74 = .ok (.iload_n 3, 1) := by decide +kernel
theorem eX11_copyBank_75 : decode cX11_copyBank 75 = .ok (.iadd, 1) := by decide +kernel
theorem eX11_copyBank_76 : decode cX11_copyBank 76 = .ok (.aload_n 0, 1) := by decide +kernel
theorem eX11_copyBank_77 : decode cX11_copyBank 77 = .ok (.getfield 66, 3) := by decide +kernel
theorem eX11_copyBank_80 : decode cX11_copyBank 80 = .ok (.bipush 8, 2) := by decide +kernel
theorem eX11_copyBank_82 : decode cX11_copyBank 82 = .ok (.iload_n 1, 1) := by decide +kernel
theorem eX11_copyBank_83 : decode cX11_copyBank 83 = .ok (.imul, 1) := by decide +kernel
theorem eX11_copyBank_84 : decode cX11_copyBank 84 = .ok (.iload_n 3, 1) := by decide +kernel
theorem eX11_copyBank_85 : decode cX11_copyBank 85 = .ok (.iadd, 1) := by decide +kernel
theorem eX11_copyBank_86 : decode cX11_copyBank 86 = .ok (.laload, 1) := by decide +kernel
theorem eX11_copyBank_87 : decode cX11_copyBank 87 = .ok (.lastore, 1) := by decide +kernel
theorem eX11_copyBank_88 : decode cX11_copyBank 88 = .ok (.iinc 3 1, 3) := by decide +kernel
theorem eX11_copyBank_91 : decode cX11_copyBank 91 = .ok (.goto (-53), 3) := by decide +kernel
theorem eX11_copyBank_94 : decode cX11_copyBank 94 = .ok (.iconst 0, 1) := by decide +kernel
theorem eX11_copyBank_95 : decode cX11_copyBank 95 = .ok (.istore_n 3, 1) := by decide +kernel
theorem eX11_copyBank_96 : decode cX11_copyBank 96 = .ok (.iload_n 3, 1) := by decide +kernel
theorem eX11_copyBank_97 : decode cX11_copyBank 97 = .ok (.bipush 20, 2) := by decide +kernel
theorem eX11_copyBank_99 : decode cX11_copyBank 99 = .ok (.if_icmp .ge 31, 3) := by decide +kernel
theorem eX11_copyBank_102 : decode cX11_copyBank 102 = .ok (.aload_n 0, 1) := by decide +kernel
theorem eX11_copyBank_103 : decode cX11_copyBank 103 = .ok (.getfield 63, 3) := by decide +kernel
theorem eX11_copyBank_106 : decode cX11_copyBank 106 = .ok (.bipush 20, 2) := by decide +kernel
theorem eX11_copyBank_108 : decode cX11_copyBank 108 = .ok (.iload_n 2, 1) := by decide +kernel
theorem eX11_copyBank_109 : decode cX11_copyBank 109 = .ok (.imul, 1) := by decide +kernel
theorem eX11_copyBank_110 : decode cX11_copyBank 110 = .ok (.iload_n 3, 1) := by decide +kernel
theorem eX11_copyBank_111 : decode cX11_copyBank 111 = .ok (.iadd, 1) := by decide +kernel
theorem eX11_copyBank_112 : decode cX11_copyBank 112 = .ok (.aload_n 0, 1) := by decide +kernel
theorem eX11_copyBank_113 : decode cX11_copyBank 113 = .ok (.getfield 63, 3) := by decide +kernel
theorem eX11_copyBank_116 : decode cX11_copyBank 116 = .ok (.bipush 20, 2) := by decide +kernel
theorem eX11_copyBank_118 : decode cX11_copyBank 118 = .ok (.iload_n 1, 1) := by decide +kernel
theorem eX11_copyBank_119 : decode cX11_copyBank 119 = .ok (.imul, 1) := by decide +kernel
theorem eX11_copyBank_120 : decode cX11_copyBank 120 = .ok (.iload_n 3, 1) := by decide +kernel
theorem eX11_copyBank_121 : decode cX11_copyBank 121 = .ok (.iadd, 1) := by decide +kernel
theorem eX11_copyBank_122 : decode cX11_copyBank 122 = .ok (.iaload, 1) := by decide +kernel
theorem eX11_copyBank_123 : decode cX11_copyBank 123 = .ok (.iastore, 1) := by decide +kernel
theorem eX11_copyBank_124 : decode cX11_copyBank 124 = .ok (.iinc 3 1, 3) := by decide +kernel
theorem eX11_copyBank_127 : decode cX11_copyBank 127 = .ok (.goto (-31), 3) := by decide +kernel
theorem eX11_copyBank_130 : decode cX11_copyBank 130 = .ok (.iconst 0, 1) := by decide +kernel
theorem eX11_copyBank_131 : decode cX11_copyBank 131 = .ok (.istore_n 3, 1) := by decide +kernel
theorem eX11_copyBank_132 : decode cX11_copyBank 132 = .ok (.iload_n 3, 1) := by decide +kernel
theorem eX11_copyBank_133 : decode cX11_copyBank 133 = .ok (.bipush 40, 2) := by decide +kernel
theorem eX11_copyBank_135 : decode cX11_copyBank 135 = .ok (.if_icmp .ge 25, 3) := by decide +kernel
theorem eX11_copyBank_138 : decode cX11_copyBank 138 = .ok (.aload_n 0, 1) := by decide +kernel
theorem eX11_copyBank_139 : decode cX11_copyBank 139 = .ok (.bipush 40, 2) := by decide +kernel
theorem eX11_copyBank_141 : decode cX11_copyBank 141 = .ok (.iload_n 1, 1) := by decide +kernel
theorem eX11_copyBank_142 : decode cX11_copyBank 142 = .ok (.imul, 1) := by decide +kernel
theorem eX11_copyBank_143 : decode cX11_copyBank 143 = .ok (.iload_n 3, 1) := by decide +kernel
theorem eX11_copyBank_144 : decode cX11_copyBank 144 = .ok (.iadd, 1) := by decide +kernel
theorem eX11_copyBank_145 : decode cX11_copyBank 145 = .ok (.bipush 40, 2) := by decide +kernel
theorem eX11_copyBank_147 : decode cX11_copyBank 147 = .ok (.iload_n 2, 1) := by decide +kernel
theorem eX11_copyBank_148 : decode cX11_copyBank 148 = .ok (.imul, 1) := by decide +kernel
theorem eX11_copyBank_149 : decode cX11_copyBank 149 = .ok (.iload_n 3, 1) := by decide +kernel
theorem eX11_copyBank_150 : decode cX11_copyBank 150 = .ok (.iadd, 1) := by decide +kernel
theorem eX11_copyBank_151 : decode cX11_copyBank 151 = .ok (.invokevirtual 563, 3) := by decide +kernel
theorem eX11_copyBank_154 : decode cX11_copyBank 154 = .ok (.iinc 3 1, 3) := by decide +kernel
theorem eX11_copyBank_157 : decode cX11_copyBank 157 = .ok (.goto (-25), 3) := by decide +kernel
theorem eX11_copyBank_160 : decode cX11_copyBank 160 = .ok (.return_, 1) := by decide +kernel
def C_X11_copyBank (s : ST) (p : Int) (q : Int) (Q : ST → Prop) : Prop := bx <| RA s → R32 p → R32 q → q_met mX11_copyBank (qs layM s) [.ref 139, .int (Int32.ofInt p), .int (Int32.ofInt q)] (PV layM Q)
theorem C_X11_copyBank.mono {s : ST} {p : Int} {q : Int} {Q Q' : ST → Prop} (h : C_X11_copyBank s p q Q) (hq : ∀ s, Q s → Q' s) : C_X11_copyBank s p q Q' := ⟨fun hA hrp hrq => q_met.mono (h.1 hA hrp hrq) (fun _ _ => PV.mono hq), trivial⟩
def K_X11_copyBank_132 (s : ST) (a1 : Int) (a2 : Int) (a3 : Int) (Q : ST → Prop) : Prop := bx <| RA s → R32 a1 → R32 a2 → R32 a3 → q_K mX11_copyBank (qs layM s) 0 0 132 [(0, .ref 139), (1, .int (Int32.ofInt a1)), (2, .int (Int32.ofInt a2)), (3, .int (Int32.ofInt a3))] [] (q_fin mX11_copyBank (PV layM Q))
def K_X11_copyBank_96 (s : ST) (a1 : Int) (a2 : Int) (a3 : Int) (Q : ST → Prop) : Prop := bx <| RA s → R32 a1 → R32 a2 → R32 a3 → q_K mX11_copyBank (qs layM s) 0 0 96 [(0, .ref 139), (1, .int (Int32.ofInt a1)), (2, .int (Int32.ofInt a2)), (3, .int (Int32.ofInt a3))] [] (q_fin mX11_copyBank (PV layM Q))
def K_X11_copyBank_38 (s : ST) (a1 : Int) (a2 : Int) (a3 : Int) (Q : ST → Prop) : Prop := bx <| RA s → R32 a1 → R32 a2 → R32 a3 → q_K mX11_copyBank (qs layM s) 0 0 38 [(0, .ref 139), (1, .int (Int32.ofInt a1)), (2, .int (Int32.ofInt a2)), (3, .int (Int32.ofInt a3))] [] (q_fin mX11_copyBank (PV layM Q))
set_option maxRecDepth 20000 in
theorem s_X11_copyBank_132 {s : ST} {a1 : Int} {a2 : Int} {a3 : Int} {Q : ST → Prop} (h : RA s → R32 a1 → R32 a2 → R32 a3 → ((40 ≤ a3 → Q s) ∧ (¬ 40 ≤ a3 → (R32 (40 * a1) ∧ (R32 ((40 * a1) + a3) ∧ (R32 (40 * a2) ∧ (R32 ((40 * a2) + a3) ∧ (C_X11_copyPlace s ((40 * a1) + a3) ((40 * a2) + a3) (fun s5 => (R32 (a3 + 1) ∧ K_X11_copyBank_132 s5 a1 a2 (a3 + 1) Q)))))))))) : K_X11_copyBank_132 s a1 a2 a3 Q := by
  refine ⟨?_, trivial⟩
  intro hA hra1 hra2 hra3
  have h := h hA hra1 hra2 hra3
  refine q_iload_n eX11_copyBank_132 rfl ?_
  refine q_bi (v := Int32.ofInt 40) eX11_copyBank_133 rfl ?_
  refine q_cz_ge (tgt := 160) (a := a3) (b := 40) eX11_copyBank_135 (by decide) (ofz hra3) (ofz (r32l rfl)) (fun c135 => ?_) (fun c135 => ?_)
  · have h := h.1 c135
    exact q_ret eX11_copyBank_160 rfl ⟨_, rfl, hA, rfl, h⟩
  · have h := h.2 c135
    refine q_aload_n eX11_copyBank_138 rfl ?_
    refine q_bi (v := Int32.ofInt 40) eX11_copyBank_139 rfl ?_
    refine q_iload_n eX11_copyBank_141 rfl ?_
    refine z_imul eX11_copyBank_142 ?_
    have r1 := h.1
    have h := h.2
    refine q_iload_n eX11_copyBank_143 rfl ?_
    refine z_iadd eX11_copyBank_144 ?_
    have r2 := h.1
    have h := h.2
    refine q_bi (v := Int32.ofInt 40) eX11_copyBank_145 rfl ?_
    refine q_iload_n eX11_copyBank_147 rfl ?_
    refine z_imul eX11_copyBank_148 ?_
    have r3 := h.1
    have h := h.2
    refine q_iload_n eX11_copyBank_149 rfl ?_
    refine z_iadd eX11_copyBank_150 ?_
    have r4 := h.1
    have h := h.2
    refine q_V2 (ci := 11) (n := 0) eX11_copyBank_151 DX11_copyPlace lX11_563 rfl (by decide) rfl rfl rfl rfl (h.1 hA r2 r4) ?_
    rintro _ _ ⟨s5, rfl, hA5, rfl, h⟩
    have r6 := h.1
    have h := h.2
    refine z_inc (m := 1) eX11_copyBank_154 rfl (Nat.le_of_ble_eq_true rfl) rfl ?_
    refine q_goto (tgt := 132) eX11_copyBank_157 (by decide) ?_
    exact q_subL rfl (h.1 hA5 hra1 hra2 r6)
set_option maxRecDepth 20000 in
theorem s_X11_copyBank_96 {s : ST} {a1 : Int} {a2 : Int} {a3 : Int} {Q : ST → Prop} (h : RA s → R32 a1 → R32 a2 → R32 a3 → ((20 ≤ a3 → K_X11_copyBank_132 s a1 a2 0 Q) ∧ (¬ 20 ≤ a3 → (R32 (20 * a2) ∧ (R32 ((20 * a2) + a3) ∧ (R32 (20 * a1) ∧ (R32 ((20 * a1) + a3) ∧ (((0 : Int) ≤ ((20 * a1) + a3) ∧ ((20 * a1) + a3) < 120) ∧ (((0 : Int) ≤ ((20 * a2) + a3) ∧ ((20 * a2) + a3) < 120) ∧ (R32 (a3 + 1) ∧ K_X11_copyBank_96 (ui s 156 ((20 * a2) + a3) (s.1 156 ((20 * a1) + a3))) a1 a2 (a3 + 1) Q)))))))))) : K_X11_copyBank_96 s a1 a2 a3 Q := by
  refine ⟨?_, trivial⟩
  intro hA hra1 hra2 hra3
  have h := h hA hra1 hra2 hra3
  refine q_iload_n eX11_copyBank_96 rfl ?_
  refine q_bi (v := Int32.ofInt 20) eX11_copyBank_97 rfl ?_
  refine q_cz_ge (tgt := 130) (a := a3) (b := 20) eX11_copyBank_99 (by decide) (ofz hra3) (ofz (r32l rfl)) (fun c99 => ?_) (fun c99 => ?_)
  · have h := h.1 c99
    refine q_ic (v := Int32.ofInt 0) eX11_copyBank_130 rfl ?_
    refine q_istore_n eX11_copyBank_131 (Nat.le_of_ble_eq_true rfl) ?_
    exact q_subL rfl (h.1 hA hra1 hra2 (r32l rfl))
  · have h := h.2 c99
    refine q_aload_n eX11_copyBank_102 rfl ?_
    refine q_getR (c := 11) (n := 0) (k := 25) (a := 156) eX11_copyBank_103 rfl (by decide) (by decide) fX11_63 rfl rfl ?_
    refine q_bi (v := Int32.ofInt 20) eX11_copyBank_106 rfl ?_
    refine q_iload_n eX11_copyBank_108 rfl ?_
    refine z_imul eX11_copyBank_109 ?_
    have r1 := h.1
    have h := h.2
    refine q_iload_n eX11_copyBank_110 rfl ?_
    refine z_iadd eX11_copyBank_111 ?_
    have r2 := h.1
    have h := h.2
    refine q_aload_n eX11_copyBank_112 rfl ?_
    refine q_getR (c := 11) (n := 0) (k := 25) (a := 156) eX11_copyBank_113 rfl (by decide) (by decide) fX11_63 rfl rfl ?_
    refine q_bi (v := Int32.ofInt 20) eX11_copyBank_116 rfl ?_
    refine q_iload_n eX11_copyBank_118 rfl ?_
    refine z_imul eX11_copyBank_119 ?_
    have r3 := h.1
    have h := h.2
    refine q_iload_n eX11_copyBank_120 rfl ?_
    refine z_iadd eX11_copyBank_121 ?_
    have r4 := h.1
    have h := h.2
    have f5 := h.1
    have h := h.2
    refine z_iald (n := 120) eX11_copyBank_122 rfl (ofz r4) f5 ?_
    refine q_topI (v := Int32.ofInt (s.1 156 ((20 * a1) + a3))) rfl ?_
    have f6 := h.1
    have h := h.2
    refine z_iast (n := 120) eX11_copyBank_123 rfl (ofz r2) f6  ?_
    have r7 := h.1
    have h := h.2
    refine z_inc (m := 1) eX11_copyBank_124 rfl (Nat.le_of_ble_eq_true rfl) rfl ?_
    refine q_goto (tgt := 96) eX11_copyBank_127 (by decide) ?_
    exact q_subL rfl (h.1 (ra_ui hA (hA _ _)) hra1 hra2 r7)
set_option maxRecDepth 20000 in
theorem s_X11_copyBank_38 {s : ST} {a1 : Int} {a2 : Int} {a3 : Int} {Q : ST → Prop} (h : RA s → R32 a1 → R32 a2 → R32 a3 → ((8 ≤ a3 → K_X11_copyBank_96 s a1 a2 0 Q) ∧ (¬ 8 ≤ a3 → (R32 (8 * a2) ∧ (R32 ((8 * a2) + a3) ∧ (R32 (8 * a1) ∧ (R32 ((8 * a1) + a3) ∧ (((0 : Int) ≤ ((8 * a1) + a3) ∧ ((8 * a1) + a3) < 48) ∧ (((0 : Int) ≤ ((8 * a2) + a3) ∧ ((8 * a2) + a3) < 48) ∧ (R32 (a3 + 1) ∧ K_X11_copyBank_38 (uj (ui s 145 ((8 * a2) + a3) (s.1 145 ((8 * a1) + a3))) 157 ((8 * a2) + a3) (s.2 157 ((8 * a1) + a3))) a1 a2 (a3 + 1) Q)))))))))) : K_X11_copyBank_38 s a1 a2 a3 Q := by
  refine ⟨?_, trivial⟩
  intro hA hra1 hra2 hra3
  have h := h hA hra1 hra2 hra3
  refine q_iload_n eX11_copyBank_38 rfl ?_
  refine q_bi (v := Int32.ofInt 8) eX11_copyBank_39 rfl ?_
  refine q_cz_ge (tgt := 94) (a := a3) (b := 8) eX11_copyBank_41 (by decide) (ofz hra3) (ofz (r32l rfl)) (fun c41 => ?_) (fun c41 => ?_)
  · have h := h.1 c41
    refine q_ic (v := Int32.ofInt 0) eX11_copyBank_94 rfl ?_
    refine q_istore_n eX11_copyBank_95 (Nat.le_of_ble_eq_true rfl) ?_
    exact q_subL rfl (h.1 hA hra1 hra2 (r32l rfl))
  · have h := h.2 c41
    refine q_aload_n eX11_copyBank_44 rfl ?_
    refine q_getR (c := 11) (n := 0) (k := 14) (a := 145) eX11_copyBank_45 rfl (by decide) (by decide) fX11_30 rfl rfl ?_
    refine q_bi (v := Int32.ofInt 8) eX11_copyBank_48 rfl ?_
    refine q_iload_n eX11_copyBank_50 rfl ?_
    refine z_imul eX11_copyBank_51 ?_
    have r1 := h.1
    have h := h.2
    refine q_iload_n eX11_copyBank_52 rfl ?_
    refine z_iadd eX11_copyBank_53 ?_
    have r2 := h.1
    have h := h.2
    refine q_aload_n eX11_copyBank_54 rfl ?_
    refine q_getR (c := 11) (n := 0) (k := 14) (a := 145) eX11_copyBank_55 rfl (by decide) (by decide) fX11_30 rfl rfl ?_
    refine q_bi (v := Int32.ofInt 8) eX11_copyBank_58 rfl ?_
    refine q_iload_n eX11_copyBank_60 rfl ?_
    refine z_imul eX11_copyBank_61 ?_
    have r3 := h.1
    have h := h.2
    refine q_iload_n eX11_copyBank_62 rfl ?_
    refine z_iadd eX11_copyBank_63 ?_
    have r4 := h.1
    have h := h.2
    have f5 := h.1
    have h := h.2
    refine z_iald (n := 48) eX11_copyBank_64 rfl (ofz r4) f5 ?_
    refine q_topI (v := Int32.ofInt (s.1 145 ((8 * a1) + a3))) rfl ?_
    have f6 := h.1
    have h := h.2
    refine z_iast (n := 48) eX11_copyBank_65 rfl (ofz r2) f6  ?_
    refine q_aload_n eX11_copyBank_66 rfl ?_
    refine q_getR (c := 11) (n := 0) (k := 26) (a := 157) eX11_copyBank_67 rfl (by decide) (by decide) fX11_66 rfl rfl ?_
    refine q_bi (v := Int32.ofInt 8) eX11_copyBank_70 rfl ?_
    refine q_iload_n eX11_copyBank_72 rfl ?_
    refine z_imul eX11_copyBank_73 ?_
    refine q_iload_n eX11_copyBank_74 rfl ?_
    refine z_iadd eX11_copyBank_75 ?_
    refine q_aload_n eX11_copyBank_76 rfl ?_
    refine q_getR (c := 11) (n := 0) (k := 26) (a := 157) eX11_copyBank_77 rfl (by decide) (by decide) fX11_66 rfl rfl ?_
    refine q_bi (v := Int32.ofInt 8) eX11_copyBank_80 rfl ?_
    refine q_iload_n eX11_copyBank_82 rfl ?_
    refine z_imul eX11_copyBank_83 ?_
    refine q_iload_n eX11_copyBank_84 rfl ?_
    refine z_iadd eX11_copyBank_85 ?_
    refine z_lald (n := 48) eX11_copyBank_86 rfl (ofz r4) f5 ?_
    refine q_topL (v := s.2 157 ((8 * a1) + a3)) rfl ?_
    refine z_last (n := 48) eX11_copyBank_87 rfl (ofz r2) f6  ?_
    have r7 := h.1
    have h := h.2
    refine z_inc (m := 1) eX11_copyBank_88 rfl (Nat.le_of_ble_eq_true rfl) rfl ?_
    refine q_goto (tgt := 38) eX11_copyBank_91 (by decide) ?_
    exact q_subL rfl (h.1 (ra_uj (ra_ui hA (hA _ _))) hra1 hra2 r7)
set_option maxRecDepth 20000 in
theorem s_X11_copyBank {s : ST} {p : Int} {q : Int} {Q : ST → Prop} (h : RA s → R32 p → R32 q → (((0 : Int) ≤ p ∧ p < 6) ∧ (((0 : Int) ≤ q ∧ q < 6) ∧ K_X11_copyBank_38 (ui (ui (ui s 142 q (s.1 142 p)) 143 q (s.1 143 p)) 144 q (s.1 144 p)) p q 0 Q))) : C_X11_copyBank s p q Q := by
  refine ⟨?_, trivial⟩
  intro hA hrp hrq
  have h := h hA hrp hrq
  refine q_enter (by decide) (Nat.le_of_ble_eq_true rfl) ?_
  refine q_aload_n eX11_copyBank_0 rfl ?_
  refine q_getR (c := 11) (n := 0) (k := 11) (a := 142) eX11_copyBank_1 rfl (by decide) (by decide) fX11_20 rfl rfl ?_
  refine q_iload_n eX11_copyBank_4 rfl ?_
  refine q_aload_n eX11_copyBank_5 rfl ?_
  refine q_getR (c := 11) (n := 0) (k := 11) (a := 142) eX11_copyBank_6 rfl (by decide) (by decide) fX11_20 rfl rfl ?_
  refine q_iload_n eX11_copyBank_9 rfl ?_
  have f1 := h.1
  have h := h.2
  refine z_iald (n := 6) eX11_copyBank_10 rfl (ofz hrp) f1 ?_
  refine q_topI (v := Int32.ofInt (s.1 142 p)) rfl ?_
  have f2 := h.1
  have h := h.2
  refine z_iast (n := 6) eX11_copyBank_11 rfl (ofz hrq) f2  ?_
  refine q_aload_n eX11_copyBank_12 rfl ?_
  refine q_getR (c := 11) (n := 0) (k := 12) (a := 143) eX11_copyBank_13 rfl (by decide) (by decide) fX11_24 rfl rfl ?_
  refine q_iload_n eX11_copyBank_16 rfl ?_
  refine q_aload_n eX11_copyBank_17 rfl ?_
  refine q_getR (c := 11) (n := 0) (k := 12) (a := 143) eX11_copyBank_18 rfl (by decide) (by decide) fX11_24 rfl rfl ?_
  refine q_iload_n eX11_copyBank_21 rfl ?_
  refine z_iald (n := 6) eX11_copyBank_22 rfl (ofz hrp) f1 ?_
  refine q_topI (v := Int32.ofInt (s.1 143 p)) rfl ?_
  refine z_iast (n := 6) eX11_copyBank_23 rfl (ofz hrq) f2  ?_
  refine q_aload_n eX11_copyBank_24 rfl ?_
  refine q_getR (c := 11) (n := 0) (k := 13) (a := 144) eX11_copyBank_25 rfl (by decide) (by decide) fX11_27 rfl rfl ?_
  refine q_iload_n eX11_copyBank_28 rfl ?_
  refine q_aload_n eX11_copyBank_29 rfl ?_
  refine q_getR (c := 11) (n := 0) (k := 13) (a := 144) eX11_copyBank_30 rfl (by decide) (by decide) fX11_27 rfl rfl ?_
  refine q_iload_n eX11_copyBank_33 rfl ?_
  refine z_iald (n := 6) eX11_copyBank_34 rfl (ofz hrp) f1 ?_
  refine q_topI (v := Int32.ofInt (s.1 144 p)) rfl ?_
  refine z_iast (n := 6) eX11_copyBank_35 rfl (ofz hrq) f2  ?_
  refine q_ic (v := Int32.ofInt 0) eX11_copyBank_36 rfl ?_
  refine q_istore_n eX11_copyBank_37 (Nat.le_of_ble_eq_true rfl) ?_
  exact q_subL rfl (h.1 (ra_ui (ra_ui (ra_ui hA (hA _ _)) (hA _ _)) (hA _ _)) hrp hrq (r32l rfl))
