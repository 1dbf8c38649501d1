/-! STEP ROWS of the reference. By program (wip/wp/gen_parts.py). -/
theorem eX11_step_0 : decode cX11_step 0 = .ok (.aload_n 0, 1) := by decide +kernel
theorem eX11_step_1 : decode cX11_step 1 = .ok (.getfield 575, 3) := by decide +kernel
theorem eX11_step_4 : decode cX11_step 4 = .ok (.iconst 1, 1) := by decide +kernel
theorem eX11_step_5 : decode cX11_step 5 = .ok (.isub, 1) := by decide +kernel
theorem eX11_step_6 : decode cX11_step 6 = .ok (.istore_n 1, 1) := by decide +kernel
theorem eX11_step_7 : decode cX11_step 7 = .ok (.aload_n 0, 1) := by decide +kernel
theorem eX11_step_8 : decode cX11_step 8 = .ok (.getfield 164, 3) := by decide +kernel
theorem eX11_step_11 : decode cX11_step 11 = .ok (.iload_n 1, 1) := by decide +kernel
theorem eX11_step_12 : decode cX11_step 12 = .ok (.iaload, 1) := by decide +kernel
theorem eX11_step_13 : decode cX11_step 13 = .ok (.istore_n 2, 1) := by decide +kernel
theorem eX11_step_14 : decode cX11_step 14 = .ok (.bipush 40, 2) := by decide +kernel
theorem eX11_step_16 : decode cX11_step 16 = .ok (.aload_n 0, 1) := by decide +kernel
theorem eX11_step_17 : decode cX11_step 17 = .ok (.getfield 321, 3) := by decide +kernel
theorem eX11_step_20 : decode cX11_step 20 = .ok (.imul, 1) := by decide +kernel
theorem eX11_step_21 : decode cX11_step 21 = .ok (.iload_n 2, 1) := by decide +kernel
theorem eX11_step_22 : decode cX11_step 22 = .ok (.iadd, 1) := by decide +kernel
theorem eX11_step_23 : decode cX11_step 23 = .ok (.istore_n 3, 1) := by decide +kernel
theorem eX11_step_24 : decode cX11_step 24 = .ok (.aload_n 0, 1) := by decide +kernel
theorem eX11_step_25 : decode cX11_step 25 = .ok (.getfield 33, 3) := by decide +kernel
theorem eX11_step_28 : decode cX11_step 28 = .ok (.iload_n 3, 1) := by decide +kernel
theorem eX11_step_29 : decode cX11_step 29 = .ok (.iaload, 1) := by decide +kernel
theorem eX11_step_30 : decode cX11_step 30 = .ok (.istore 4, 2) := by decide +kernel
theorem eX11_step_32 : decode cX11_step 32 = .ok (.aload_n 0, 1) := by decide +kernel
theorem eX11_step_33 : decode cX11_step 33 = .ok (.getfield 167, 3) := by decide +kernel
theorem eX11_step_36 : decode cX11_step 36 = .ok (.iload_n 1, 1) := by decide +kernel
theorem eX11_step_37 : decode cX11_step 37 = .ok (.iaload, 1) := by decide +kernel
theorem eX11_step_38 : decode cX11_step 38 = .ok (.istore 5, 2) := by decide +kernel
theorem eX11_step_40 : decode cX11_step 40 = .ok (.aload_n 0, 1) := by decide +kernel
theorem eX11_step_41 : decode cX11_step 41 = .ok (.getfield 167, 3) := by decide +kernel
theorem eX11_step_44 : decode cX11_step 44 = .ok (.iload_n 1, 1) := by decide +kernel
theorem eX11_step_45 : decode cX11_step 45 = .ok (.dup2, 1) := by decide +kernel
theorem eX11_step_46 : decode cX11_step 46 = .ok (.iaload, 1) := by decide +kernel
theorem eX11_step_47 : decode cX11_step 47 = .ok (.iconst 1, 1) := by decide +kernel
theorem eX11_step_48 : decode cX11_step 48 = .ok (.iadd, 1) := by decide +kernel
theorem eX11_step_49 : decode cX11_step 49 = .ok (.iastore, 1) := by decide +kernel
theorem eX11_step_50 : decode cX11_step 50 = .ok (.iload 4, 2) := by decide +kernel
theorem eX11_step_52 : decode cX11_step 52 = .ok (.invokestatic 365, 3) := by decide +kernel
theorem eX11_step_55 : decode cX11_step 55 = .ok (.ifCond .ne 16, 3) := by decide +kernel
theorem eX11_step_58 : decode cX11_step 58 = .ok (.aload_n 0, 1) := by decide +kernel
theorem eX11_step_59 : decode cX11_step 59 = .ok (.iload_n 1, 1) := by decide +kernel
theorem eX11_step_60 : decode cX11_step 60 = .ok (.iload_n 3, 1) := by decide +kernel
theorem eX11_step_61 : decode cX11_step 61 = .ok (.iload 4, 2) := by decide +kernel
theorem eX11_step_63 : decode cX11_step 63 = .ok (.iload 5, 2) := by decide +kernel
theorem eX11_step_65 : decode cX11_step 65 = .ok (.invokevirtual 590, 3) := by decide +kernel
theorem eX11_step_68 : decode cX11_step 68 = .ok (.goto 235, 3) := by decide +kernel
theorem eX11_step_71 : decode cX11_step 71 = .ok (.iload 4, 2) := by decide +kernel
theorem eX11_step_73 : decode cX11_step 73 = .ok (.iconst 3, 1) := by decide +kernel
theorem eX11_step_74 : decode cX11_step 74 = .ok (.if_icmp .ne 23, 3) := by decide +kernel
theorem eX11_step_77 : decode cX11_step 77 = .ok (.aload_n 0, 1) := by decide +kernel
theorem eX11_step_78 : decode cX11_step 78 = .ok (.aload_n 0, 1) := by decide +kernel
theorem eX11_step_79 : decode cX11_step 79 = .ok (.iconst 4, 1) := by decide +kernel
theorem eX11_step_80 : decode cX11_step 80 = .ok (.iload_n 2, 1) := by decide +kernel
theorem eX11_step_81 : decode cX11_step 81 = .ok (.aload_n 0, 1) := by decide +kernel
theorem eX11_step_82 : decode cX11_step 82 = .ok (.getfield 170, 3) := by decide +kernel
theorem eX11_step_85 : decode cX11_step 85 = .ok (.iload_n 1, 1) := by decide +kernel
theorem eX11_step_86 : decode cX11_step 86 = .ok (.iaload, 1) := by decide +kernel
theorem eX11_step_87 : decode cX11_step 87 = .ok (.iconst (-1), 1) := by decide +kernel
theorem eX11_step_88 : decode cX11_step 88 = .ok (.invokevirtual 594, 3) := by decide +kernel
theorem eX11_step_91 : decode cX11_step 91 = .ok (.invokevirtual 597, 3) := by decide +kernel
theorem eX11_step_94 : decode cX11_step 94 = .ok (.goto 209, 3) := by decide +kernel
theorem eX11_step_97 : decode cX11_step 97 = .ok (.iload 4, 2) := by decide +kernel
theorem eX11_step_99 : decode cX11_step 99 = .ok (.iconst 4, 1) := by decide +kernel
theorem eX11_step_100 : decode cX11_step 100 = .ok (.if_icmp .eq 10, 3) := by decide +kernel
theorem eX11_step_103 : decode cX11_step 103 = .ok (.iload 4, 2) := by decide +kernel
theorem eX11_step_105 : decode cX11_step 105 = .ok (.bipush 16, 2) := by decide +kernel
theorem eX11_step_107 : decode cX11_step 107 = .ok (.if_icmp .ne 54, 3) := by decide +kernel
theorem eX11_step_110 : decode cX11_step 110 = .ok (.iload 5, 2) := by decide +kernel
theorem eX11_step_112 : decode cX11_step 112 = .ok (.ifCond .ne 36, 3) := by decide +kernel
theorem eX11_step_115 : decode cX11_step 115 = .ok (.aload_n 0, 1) := by decide +kernel
theorem eX11_step_116 : decode cX11_step 116 = .ok (.aload_n 0, 1) := by decide +kernel
theorem eX11_step_117 : decode cX11_step 117 = .ok (.getfield 51, 3) := by decide +kernel
theorem eX11_step_120 : decode cX11_step 120 = .ok (.iconst 3, 1) := by decide +kernel
theorem eX11_step_121 : decode cX11_step 121 = .ok (.iload_n 3, 1) := by decide +kernel
theorem eX11_step_122 : decode cX11_step 122 = .ok (.imul, 1) := by decide +kernel
theorem eX11_step_123 : decode cX11_step 123 = .ok (.iload 4, 2) := by decide +kernel
theorem eX11_step_125 : decode cX11_step 125 = .ok (.iconst 4, 1) := by decide +kernel
theorem eX11_step_126 : decode cX11_step 126 = .ok (.if_icmp .ne 7, 3) := by decide +kernel
theorem eX11_step_129 : decode cX11_step 129 = .ok (.iconst 1, 1) := by decide +kernel
theorem eX11_step_130 : decode cX11_step 130 = .ok (.goto 4, 3) := by decide +kernel
theorem eX11_step_133 : decode cX11_step 133 = .ok (.iconst 0, 1) := by decide +kernel
theorem eX11_step_134 : decode cX11_step 134 = .ok (.iadd, 1) := by decide +kernel
theorem eX11_step_135 : decode cX11_step 135 = .ok (.iaload, 1) := by decide +kernel
theorem eX11_step_136 : decode cX11_step 136 = .ok (.aload_n 0, 1) := by decide +kernel
theorem eX11_step_137 : decode cX11_step 137 = .ok (.getfield 170, 3) := by decide +kernel
theorem eX11_step_140 : decode cX11_step 140 = .ok (.iload_n 1, 1) := by decide +kernel
theorem eX11_step_141 : decode cX11_step 141 = .ok (.iaload, 1) := by decide +kernel
theorem eX11_step_142 : decode cX11_step 142 = .ok (.invokevirtual 584, 3) := by decide +kernel
theorem eX11_step_145 : decode cX11_step 145 = .ok (.goto 158, 3) := by decide +kernel
theorem eX11_step_148 : decode cX11_step 148 = .ok (.aload_n 0, 1) := by decide +kernel
theorem eX11_step_149 : decode cX11_step 149 = .ok (.dup, 1) := by decide +kernel
theorem eX11_step_150 : decode cX11_step 150 = .ok (.getfield 575, 3) := by decide +kernel
theorem eX11_step_153 : decode cX11_step 153 = .ok (.iconst 1, 1) := by decide +kernel
theorem eX11_step_154 : decode cX11_step 154 = .ok (.isub, 1) := by decide +kernel
theorem eX11_step_155 : decode cX11_step 155 = .ok (.putfield 575, 3) := by decide +kernel
theorem eX11_step_158 : decode cX11_step 158 = .ok (.goto 145, 3) := by decide +kernel
theorem eX11_step_161 : decode cX11_step 161 = .ok (.iload 4, 2) := by decide +kernel
theorem eX11_step_163 : decode cX11_step 163 = .ok (.iconst 5, 1) := by decide +kernel
theorem eX11_step_164 : decode cX11_step 164 = .ok (.if_icmp .ne 14, 3) := by decide +kernel
theorem eX11_step_167 : decode cX11_step 167 = .ok (.aload_n 0, 1) := by decide +kernel
theorem eX11_step_168 : decode cX11_step 168 = .ok (.iload_n 1, 1) := by decide +kernel
theorem eX11_step_169 : decode cX11_step 169 = .ok (.iload_n 3, 1) := by decide +kernel
theorem eX11_step_170 : decode cX11_step 170 = .ok (.iload 5, 2) := by decide +kernel
theorem eX11_step_172 : decode cX11_step 172 = .ok (.invokevirtual 600, 3) := by decide +kernel
theorem eX11_step_175 : decode cX11_step 175 = .ok (.goto 128, 3) := by decide +kernel
theorem eX11_step_178 : decode cX11_step 178 = .ok (.iload 5, 2) := by decide +kernel
theorem eX11_step_180 : decode cX11_step 180 = .ok (.iload 4, 2) := by decide +kernel
theorem eX11_step_182 : decode cX11_step 182 = .ok (.invokestatic 365, 3) := by decide +kernel
theorem eX11_step_185 : decode cX11_step 185 = .ok (.if_icmp .ge 43, 3) := by decide +kernel
theorem eX11_step_188 : decode cX11_step 188 = .ok (.iload 5, 2) := by decide +kernel
theorem eX11_step_190 : decode cX11_step 190 = .ok (.iconst 1, 1) := by decide +kernel
theorem eX11_step_191 : decode cX11_step 191 = .ok (.if_icmp .ne 13, 3) := by decide +kernel
theorem eX11_step_194 : decode cX11_step 194 = .ok (.aload_n 0, 1) := by decide +kernel
theorem eX11_step_195 : decode cX11_step 195 = .ok (.getfield 173, 3) := by decide +kernel
theorem eX11_step_198 : decode cX11_step 198 = .ok (.iload_n 1, 1) := by decide +kernel
theorem eX11_step_199 : decode cX11_step 199 = .ok (.aload_n 0, 1) := by decide +kernel
theorem eX11_step_200 : decode cX11_step 200 = .ok (.getfield 603, 3) := by decide +kernel
theorem eX11_step_203 : decode cX11_step 203 = .ok (.iastore, 1) := by decide +kernel
theorem eX11_step_204 : decode cX11_step 204 = .ok (.aload_n 0, 1) := by decide +kernel
theorem eX11_step_205 : decode cX11_step 205 = .ok (.aload_n 0, 1) := by decide +kernel
theorem eX11_step_206 : decode cX11_step 206 = .ok (.getfield 51, 3) := by decide +kernel
theorem eX11_step_209 : decode cX11_step 209 = .ok (.iconst 3, 1) := by decide +kernel
theorem eX11_step_210 : decode cX11_step 210 = .ok (.iload_n 3, 1) := by decide +kernel
theorem eX11_step_211 : decode cX11_step 211 = .ok (.imul, 1) := by decide +kernel
theorem eX11_step_212 : decode cX11_step 212 = .ok (.iload 5, 2) := by decide +kernel
theorem eX11_step_214 : decode cX11_step 214 = .ok (.iadd, 1) := by decide +kernel
theorem eX11_step_215 : decode cX11_step 215 = .ok (.iaload, 1) := by decide +kernel
theorem eX11_step_216 : decode cX11_step 216 = .ok (.aload_n 0, 1) := by decide +kernel
theorem eX11_step_217 : decode cX11_step 217 = .ok (.getfield 170, 3) := by decide +kernel
theorem eX11_step_220 : decode cX11_step 220 = .ok (.iload_n 1, 1) := by decide +kernel
theorem eX11_step_221 : decode cX11_step 221 = .ok (.iaload, 1) := by decide +kernel
theorem eX11_step_222 : decode cX11_step 222 = .ok (.invokevirtual 584, 3) := by decide +kernel
theorem eX11_step_225 : decode cX11_step 225 = .ok (.goto 78, 3) := by decide +kernel
theorem eX11_step_228 : decode cX11_step 228 = .ok (.iload 4, 2) := by decide +kernel
theorem eX11_step_230 : decode cX11_step 230 = .ok (.bipush 6, 2) := by decide +kernel
theorem eX11_step_232 : decode cX11_step 232 = .ok (.if_icmp .ne 22, 3) := by decide +kernel
theorem eX11_step_235 : decode cX11_step 235 = .ok (.iload 5, 2) := by decide +kernel
theorem eX11_step_237 : decode cX11_step 237 = .ok (.iconst 3, 1) := by decide +kernel
theorem eX11_step_238 : decode cX11_step 238 = .ok (.if_icmp .ne 16, 3) := by decide +kernel
theorem eX11_step_241 : decode cX11_step 241 = .ok (.aload_n 0, 1) := by decide +kernel
theorem eX11_step_242 : decode cX11_step 242 = .ok (.dup, 1) := by decide +kernel
theorem eX11_step_243 : decode cX11_step 243 = .ok (.getfield 575, 3) := by decide +kernel
theorem eX11_step_246 : decode cX11_step 246 = .ok (.iconst 1, 1) := by decide +kernel
theorem eX11_step_247 : decode cX11_step 247 = .ok (.isub, 1) := by decide +kernel
theorem eX11_step_248 : decode cX11_step 248 = .ok (.putfield 575, 3) := by decide +kernel
theorem eX11_step_251 : decode cX11_step 251 = .ok (.goto 52, 3) := by decide +kernel
theorem eX11_step_254 : decode cX11_step 254 = .ok (.iload 4, 2) := by decide +kernel
theorem eX11_step_256 : decode cX11_step 256 = .ok (.bipush 6, 2) := by decide +kernel
theorem eX11_step_258 : decode cX11_step 258 = .ok (.if_icmp .ne 11, 3) := by decide +kernel
theorem eX11_step_261 : decode cX11_step 261 = .ok (.aload_n 0, 1) := by decide +kernel
theorem eX11_step_262 : decode cX11_step 262 = .ok (.iload_n 1, 1) := by decide +kernel
theorem eX11_step_263 : decode cX11_step 263 = .ok (.invokevirtual 606, 3) := by decide +kernel
theorem eX11_step_266 : decode cX11_step 266 = .ok (.goto 37, 3) := by decide +kernel
theorem eX11_step_269 : decode cX11_step 269 = .ok (.iload 4, 2) := by decide +kernel
theorem eX11_step_271 : decode cX11_step 271 = .ok (.invokestatic 365, 3) := by decide +kernel
theorem eX11_step_274 : decode cX11_step 274 = .ok (.iconst 1, 1) := by decide +kernel
theorem eX11_step_275 : decode cX11_step 275 = .ok (.if_icmp .ne 12, 3) := by decide +kernel
theorem eX11_step_278 : decode cX11_step 278 = .ok (.aload_n 0, 1) := by decide +kernel
theorem eX11_step_279 : decode cX11_step 279 = .ok (.iload 4, 2) := by decide +kernel
theorem eX11_step_281 : decode cX11_step 281 = .ok (.invokevirtual 609, 3) := by decide +kernel
theorem eX11_step_284 : decode cX11_step 284 = .ok (.goto 19, 3) := by decide +kernel
theorem eX11_step_287 : decode cX11_step 287 = .ok (.aload_n 0, 1) := by decide +kernel
theorem eX11_step_288 : decode cX11_step 288 = .ok (.iload 4, 2) := by decide +kernel
theorem eX11_step_290 : decode cX11_step 290 = .ok (.aload_n 0, 1) := by decide +kernel
theorem eX11_step_291 : decode cX11_step 291 = .ok (.getfield 173, 3) := by decide +kernel
theorem eX11_step_294 : decode cX11_step 294 = .ok (.iload_n 1, 1) := by decide +kernel
theorem eX11_step_295 : decode cX11_step 295 = .ok (.iaload, 1) := by decide +kernel
theorem eX11_step_296 : decode cX11_step 296 = .ok (.aload_n 0, 1) := by decide +kernel
theorem eX11_step_297 : decode cX11_step 297 = .ok (.getfield 603, 3) := by decide +kernel
theorem eX11_step_300 : decode cX11_step 300 = .ok (.invokevirtual 612, 3) := by decide +kernel
theorem eX11_step_303 : decode cX11_step 303 = .ok (.return_, 1) := by decide +kernel
def C_X11_step (s : ST) (Q : ST → Prop) : Prop := bx <| RA s → q_met mX11_step (qs layM s) [.ref 139] (PV layM Q)
theorem C_X11_step.mono {s : ST} {Q Q' : ST → Prop} (h : C_X11_step s Q) (hq : ∀ s, Q s → Q' s) : C_X11_step s Q' := ⟨fun hA => q_met.mono (h.1 hA) (fun _ _ => PV.mono hq), trivial⟩
def K_X11_step_254 (s : ST) (a1 : Int) (a4 : Int) (Q : ST → Prop) : Prop := bx <| RA s → R32 a1 → R32 a4 → q_K mX11_step (qs layM s) 0 0 254 [(0, .ref 139), (1, .int (Int32.ofInt a1)), (4, .int (Int32.ofInt a4))] [] (q_fin mX11_step (PV layM Q))
def K_X11_step_204 (s : ST) (a1 : Int) (a3 : Int) (a5 : Int) (Q : ST → Prop) : Prop := bx <| RA s → R32 a1 → R32 a3 → R32 a5 → q_K mX11_step (qs layM s) 0 0 204 [(0, .ref 139), (1, .int (Int32.ofInt a1)), (3, .int (Int32.ofInt a3)), (5, .int (Int32.ofInt a5))] [] (q_fin mX11_step (PV layM Q))
def K_X11_step_134 (s : ST) (a1 : Int) (t2 : Int) (t3 : Int) (Q : ST → Prop) : Prop := bx <| RA s → R32 a1 → R32 t2 → R32 t3 → q_K mX11_step (qs layM s) 0 0 134 [(0, .ref 139), (1, .int (Int32.ofInt a1))] [.int (Int32.ofInt t3), .int (Int32.ofInt t2), .ref 152, .ref 139] (q_fin mX11_step (PV layM Q))
def K_X11_step_110 (s : ST) (a1 : Int) (a3 : Int) (a4 : Int) (a5 : Int) (Q : ST → Prop) : Prop := bx <| RA s → R32 a1 → R32 a3 → R32 a4 → R32 a5 → q_K mX11_step (qs layM s) 0 0 110 [(0, .ref 139), (1, .int (Int32.ofInt a1)), (3, .int (Int32.ofInt a3)), (4, .int (Int32.ofInt a4)), (5, .int (Int32.ofInt a5))] [] (q_fin mX11_step (PV layM Q))
set_option maxRecDepth 20000 in
theorem s_X11_step_254 {s : ST} {a1 : Int} {a4 : Int} {Q : ST → Prop} (h : RA s → R32 a1 → R32 a4 → ((¬ a4 = 6 → ((¬ (F_X11_kidsOf s a4) = 1 → (((0 : Int) ≤ a1 ∧ a1 < 152) ∧ (C_X11_doTwo s a4 (s.1 191 a1) (s.1 139 87) (fun s3 => Q s3)))) ∧ ((F_X11_kidsOf s a4) = 1 → (C_X11_doOne s a4 (fun s4 => Q s4))))) ∧ (a4 = 6 → (C_X11_call s a1 (fun s5 => Q s5))))) : K_X11_step_254 s a1 a4 Q := by
  refine ⟨?_, trivial⟩
  intro hA hra1 hra4
  have h := h hA hra1 hra4
  refine q_iload eX11_step_254 rfl ?_
  refine q_bi (v := Int32.ofInt 6) eX11_step_256 rfl ?_
  refine q_cz_ne (tgt := 269) (a := a4) (b := 6) eX11_step_258 (by decide) (ofz hra4) (ofz (r32l rfl)) (fun c258 => ?_) (fun c258 => ?_)
  · have h := h.1 c258
    refine q_iload eX11_step_269 rfl ?_
    refine q_S1 eX11_step_271 DX11_kidsOf lX11_365 rfl rfl rfl (p_X11_kidsOf hA hra4) ?_
    rintro _ _ ⟨r1, rfl, rfl⟩
    refine q_ic (v := Int32.ofInt 1) eX11_step_274 rfl ?_
    refine q_cz_ne (tgt := 287) (a := (F_X11_kidsOf s a4)) (b := 1) eX11_step_275 (by decide) (ofz r1) (ofz (r32l rfl)) (fun c275 => ?_) (fun c275 => ?_)
    · have h := h.1 c275
      refine q_aload_n eX11_step_287 rfl ?_
      refine q_iload eX11_step_288 rfl ?_
      refine q_aload_n eX11_step_290 rfl ?_
      refine q_getR (c := 11) (n := 0) (k := 75) (a := 191) eX11_step_291 rfl (by decide) (by decide) fX11_173 rfl rfl ?_
      refine q_iload_n eX11_step_294 rfl ?_
      have f2 := h.1
      have h := h.2
      refine z_iald (n := 152) eX11_step_295 rfl (ofz hra1) f2 ?_
      refine q_topI (v := Int32.ofInt (s.1 191 a1)) rfl ?_
      refine q_aload_n eX11_step_296 rfl ?_
      refine q_getf (c := 11) (n := 0) (k := 87) (v := .int (Int32.ofInt (s.1 139 87))) eX11_step_297 rfl (by decide) (by decide) fX11_603 rfl ?_
      refine q_V3 (ci := 11) (n := 0) eX11_step_300 DX11_doTwo lX11_612 rfl (by decide) rfl rfl rfl rfl (h.1 hA hra4 (hA _ _) (hA _ _)) ?_
      rintro _ _ ⟨s3, rfl, hA3, rfl, h⟩
      exact q_ret eX11_step_303 rfl ⟨_, rfl, hA3, rfl, h⟩
    · have h := h.2 c275
      refine q_aload_n eX11_step_278 rfl ?_
      refine q_iload eX11_step_279 rfl ?_
      refine q_V1 (ci := 11) (n := 0) eX11_step_281 DX11_doOne lX11_609 rfl (by decide) rfl rfl rfl rfl (h.1 hA hra4) ?_
      rintro _ _ ⟨s4, rfl, hA4, rfl, h⟩
      refine q_goto (tgt := 303) eX11_step_284 (by decide) ?_
      exact q_ret eX11_step_303 rfl ⟨_, rfl, hA4, rfl, h⟩
  · have h := h.2 c258
    refine q_aload_n eX11_step_261 rfl ?_
    refine q_iload_n eX11_step_262 rfl ?_
    refine q_V1 (ci := 11) (n := 0) eX11_step_263 DX11_call lX11_606 rfl (by decide) rfl rfl rfl rfl (h.1 hA hra1) ?_
    rintro _ _ ⟨s5, rfl, hA5, rfl, h⟩
    refine q_goto (tgt := 303) eX11_step_266 (by decide) ?_
    exact q_ret eX11_step_303 rfl ⟨_, rfl, hA5, rfl, h⟩
set_option maxRecDepth 20000 in
theorem s_X11_step_204 {s : ST} {a1 : Int} {a3 : Int} {a5 : Int} {Q : ST → Prop} (h : RA s → R32 a1 → R32 a3 → R32 a5 → (R32 (3 * a3) ∧ (R32 ((3 * a3) + a5) ∧ (((0 : Int) ≤ ((3 * a3) + a5) ∧ ((3 * a3) + a5) < 720) ∧ (((0 : Int) ≤ a1 ∧ a1 < 152) ∧ (C_X11_works s (s.1 152 ((3 * a3) + a5)) (s.1 190 a1) (fun s5 => Q s5))))))) : K_X11_step_204 s a1 a3 a5 Q := by
  refine ⟨?_, trivial⟩
  intro hA hra1 hra3 hra5
  have h := h hA hra1 hra3 hra5
  refine q_aload_n eX11_step_204 rfl ?_
  refine q_aload_n eX11_step_205 rfl ?_
  refine q_getR (c := 11) (n := 0) (k := 21) (a := 152) eX11_step_206 rfl (by decide) (by decide) fX11_51 rfl rfl ?_
  refine q_ic (v := Int32.ofInt 3) eX11_step_209 rfl ?_
  refine q_iload_n eX11_step_210 rfl ?_
  refine z_imul eX11_step_211 ?_
  have r1 := h.1
  have h := h.2
  refine q_iload eX11_step_212 rfl ?_
  refine z_iadd eX11_step_214 ?_
  have r2 := h.1
  have h := h.2
  have f3 := h.1
  have h := h.2
  refine z_iald (n := 720) eX11_step_215 rfl (ofz r2) f3 ?_
  refine q_topI (v := Int32.ofInt (s.1 152 ((3 * a3) + a5))) rfl ?_
  refine q_aload_n eX11_step_216 rfl ?_
  refine q_getR (c := 11) (n := 0) (k := 74) (a := 190) eX11_step_217 rfl (by decide) (by decide) fX11_170 rfl rfl ?_
  refine q_iload_n eX11_step_220 rfl ?_
  have f4 := h.1
  have h := h.2
  refine z_iald (n := 152) eX11_step_221 rfl (ofz hra1) f4 ?_
  refine q_topI (v := Int32.ofInt (s.1 190 a1)) rfl ?_
  refine q_V2 (ci := 11) (n := 0) eX11_step_222 DX11_works lX11_584 rfl (by decide) rfl rfl rfl rfl (h.1 hA (hA _ _) (hA _ _)) ?_
  rintro _ _ ⟨s5, rfl, hA5, rfl, h⟩
  refine q_goto (tgt := 303) eX11_step_225 (by decide) ?_
  exact q_ret eX11_step_303 rfl ⟨_, rfl, hA5, rfl, h⟩
set_option maxRecDepth 20000 in
theorem s_X11_step_134 {s : ST} {a1 : Int} {t2 : Int} {t3 : Int} {Q : ST → Prop} (h : RA s → R32 a1 → R32 t2 → R32 t3 → (R32 (t2 + t3) ∧ (((0 : Int) ≤ (t2 + t3) ∧ (t2 + t3) < 720) ∧ (((0 : Int) ≤ a1 ∧ a1 < 152) ∧ (C_X11_works s (s.1 152 (t2 + t3)) (s.1 190 a1) (fun s4 => Q s4)))))) : K_X11_step_134 s a1 t2 t3 Q := by
  refine ⟨?_, trivial⟩
  intro hA hra1 hrt2 hrt3
  have h := h hA hra1 hrt2 hrt3
  refine z_iadd eX11_step_134 ?_
  have r1 := h.1
  have h := h.2
  have f2 := h.1
  have h := h.2
  refine z_iald (n := 720) eX11_step_135 rfl (ofz r1) f2 ?_
  refine q_topI (v := Int32.ofInt (s.1 152 (t2 + t3))) rfl ?_
  refine q_aload_n eX11_step_136 rfl ?_
  refine q_getR (c := 11) (n := 0) (k := 74) (a := 190) eX11_step_137 rfl (by decide) (by decide) fX11_170 rfl rfl ?_
  refine q_iload_n eX11_step_140 rfl ?_
  have f3 := h.1
  have h := h.2
  refine z_iald (n := 152) eX11_step_141 rfl (ofz hra1) f3 ?_
  refine q_topI (v := Int32.ofInt (s.1 190 a1)) rfl ?_
  refine q_V2 (ci := 11) (n := 0) eX11_step_142 DX11_works lX11_584 rfl (by decide) rfl rfl rfl rfl (h.1 hA (hA _ _) (hA _ _)) ?_
  rintro _ _ ⟨s4, rfl, hA4, rfl, h⟩
  refine q_goto (tgt := 303) eX11_step_145 (by decide) ?_
  exact q_ret eX11_step_303 rfl ⟨_, rfl, hA4, rfl, h⟩
set_option maxRecDepth 20000 in
theorem s_X11_step_110 {s : ST} {a1 : Int} {a3 : Int} {a4 : Int} {a5 : Int} {Q : ST → Prop} (h : RA s → R32 a1 → R32 a3 → R32 a4 → R32 a5 → ((¬ a5 = 0 → (R32 (s.1 139 83 - 1) ∧ Q (ui s 139 83 (s.1 139 83 - 1)))) ∧ (a5 = 0 → (R32 (3 * a3) ∧ ((¬ a4 = 4 → K_X11_step_134 s a1 (3 * a3) 0 Q) ∧ (a4 = 4 → K_X11_step_134 s a1 (3 * a3) 1 Q)))))) : K_X11_step_110 s a1 a3 a4 a5 Q := by
  refine ⟨?_, trivial⟩
  intro hA hra1 hra3 hra4 hra5
  have h := h hA hra1 hra3 hra4 hra5
  refine q_iload eX11_step_110 rfl ?_
  refine q_iz_ne (tgt := 148) (a := a5) eX11_step_112 (by decide) (ofz hra5) (fun c112 => ?_) (fun c112 => ?_)
  · have h := h.1 c112
    refine q_aload_n eX11_step_148 rfl ?_
    refine q_dup eX11_step_149 rfl ?_
    refine q_getf (c := 11) (n := 0) (k := 83) (v := .int (Int32.ofInt (s.1 139 83))) eX11_step_150 rfl (by decide) (by decide) fX11_575 rfl ?_
    refine q_ic (v := Int32.ofInt 1) eX11_step_153 rfl ?_
    refine z_isub eX11_step_154 ?_
    have r1 := h.1
    have h := h.2
    refine z_putI (c := 11) (n := 0) (k := 83) (kz := 83) eX11_step_155 rfl (by decide) (by decide) fX11_575 rfl rfl rfl ?_
    refine q_goto (tgt := 303) eX11_step_158 (by decide) ?_
    exact q_ret eX11_step_303 rfl ⟨_, rfl, (ra_ui hA r1), rfl, h⟩
  · have h := h.2 c112
    refine q_aload_n eX11_step_115 rfl ?_
    refine q_aload_n eX11_step_116 rfl ?_
    refine q_getR (c := 11) (n := 0) (k := 21) (a := 152) eX11_step_117 rfl (by decide) (by decide) fX11_51 rfl rfl ?_
    refine q_ic (v := Int32.ofInt 3) eX11_step_120 rfl ?_
    refine q_iload_n eX11_step_121 rfl ?_
    refine z_imul eX11_step_122 ?_
    have r2 := h.1
    have h := h.2
    refine q_iload eX11_step_123 rfl ?_
    refine q_ic (v := Int32.ofInt 4) eX11_step_125 rfl ?_
    refine q_cz_ne (tgt := 133) (a := a4) (b := 4) eX11_step_126 (by decide) (ofz hra4) (ofz (r32l rfl)) (fun c126 => ?_) (fun c126 => ?_)
    · have h := h.1 c126
      refine q_ic (v := Int32.ofInt 0) eX11_step_133 rfl ?_
      exact q_subL rfl (h.1 hA hra1 r2 (r32l rfl))
    · have h := h.2 c126
      refine q_ic (v := Int32.ofInt 1) eX11_step_129 rfl ?_
      refine q_goto (tgt := 134) eX11_step_130 (by decide) ?_
      exact q_subL rfl (h.1 hA hra1 r2 (r32l rfl))
set_option maxRecDepth 20000 in
theorem s_X11_step {s : ST} {Q : ST → Prop} (h : RA s → (R32 (s.1 139 83 - 1) ∧ (((0 : Int) ≤ (s.1 139 83 - 1) ∧ (s.1 139 83 - 1) < 152) ∧ (R32 (40 * s.1 139 28) ∧ (R32 ((40 * s.1 139 28) + s.1 188 (s.1 139 83 - 1)) ∧ (((0 : Int) ≤ ((40 * s.1 139 28) + s.1 188 (s.1 139 83 - 1)) ∧ ((40 * s.1 139 28) + s.1 188 (s.1 139 83 - 1)) < 240) ∧ (R32 (s.1 189 (s.1 139 83 - 1) + 1) ∧ ((¬ (F_X11_kidsOf (ui s 189 (s.1 139 83 - 1) (s.1 189 (s.1 139 83 - 1) + 1)) (s.1 146 ((40 * s.1 139 28) + s.1 188 (s.1 139 83 - 1)))) = 0 → ((¬ s.1 146 ((40 * s.1 139 28) + s.1 188 (s.1 139 83 - 1)) = 3 → ((s.1 146 ((40 * s.1 139 28) + s.1 188 (s.1 139 83 - 1)) = 4 → K_X11_step_110 (ui s 189 (s.1 139 83 - 1) (s.1 189 (s.1 139 83 - 1) + 1)) (s.1 139 83 - 1) ((40 * s.1 139 28) + s.1 188 (s.1 139 83 - 1)) (s.1 146 ((40 * s.1 139 28) + s.1 188 (s.1 139 83 - 1))) (s.1 189 (s.1 139 83 - 1)) Q) ∧ (¬ s.1 146 ((40 * s.1 139 28) + s.1 188 (s.1 139 83 - 1)) = 4 → ((¬ s.1 146 ((40 * s.1 139 28) + s.1 188 (s.1 139 83 - 1)) = 16 → ((¬ s.1 146 ((40 * s.1 139 28) + s.1 188 (s.1 139 83 - 1)) = 5 → (((F_X11_kidsOf (ui s 189 (s.1 139 83 - 1) (s.1 189 (s.1 139 83 - 1) + 1)) (s.1 146 ((40 * s.1 139 28) + s.1 188 (s.1 139 83 - 1)))) ≤ s.1 189 (s.1 139 83 - 1) → ((¬ s.1 146 ((40 * s.1 139 28) + s.1 188 (s.1 139 83 - 1)) = 6 → K_X11_step_254 (ui s 189 (s.1 139 83 - 1) (s.1 189 (s.1 139 83 - 1) + 1)) (s.1 139 83 - 1) (s.1 146 ((40 * s.1 139 28) + s.1 188 (s.1 139 83 - 1))) Q) ∧ (s.1 146 ((40 * s.1 139 28) + s.1 188 (s.1 139 83 - 1)) = 6 → ((¬ s.1 189 (s.1 139 83 - 1) = 3 → K_X11_step_254 (ui s 189 (s.1 139 83 - 1) (s.1 189 (s.1 139 83 - 1) + 1)) (s.1 139 83 - 1) (s.1 146 ((40 * s.1 139 28) + s.1 188 (s.1 139 83 - 1))) Q) ∧ (s.1 189 (s.1 139 83 - 1) = 3 → Q (ui (ui s 189 (s.1 139 83 - 1) (s.1 189 (s.1 139 83 - 1) + 1)) 139 83 (s.1 139 83 - 1))))))) ∧ (¬ (F_X11_kidsOf (ui s 189 (s.1 139 83 - 1) (s.1 189 (s.1 139 83 - 1) + 1)) (s.1 146 ((40 * s.1 139 28) + s.1 188 (s.1 139 83 - 1)))) ≤ s.1 189 (s.1 139 83 - 1) → ((¬ s.1 189 (s.1 139 83 - 1) = 1 → K_X11_step_204 (ui s 189 (s.1 139 83 - 1) (s.1 189 (s.1 139 83 - 1) + 1)) (s.1 139 83 - 1) ((40 * s.1 139 28) + s.1 188 (s.1 139 83 - 1)) (s.1 189 (s.1 139 83 - 1)) Q) ∧ (s.1 189 (s.1 139 83 - 1) = 1 → K_X11_step_204 (ui (ui s 189 (s.1 139 83 - 1) (s.1 189 (s.1 139 83 - 1) + 1)) 191 (s.1 139 83 - 1) (s.1 139 87)) (s.1 139 83 - 1) ((40 * s.1 139 28) + s.1 188 (s.1 139 83 - 1)) (s.1 189 (s.1 139 83 - 1)) Q))))) ∧ (s.1 146 ((40 * s.1 139 28) + s.1 188 (s.1 139 83 - 1)) = 5 → (C_X11_stepIf (ui s 189 (s.1 139 83 - 1) (s.1 189 (s.1 139 83 - 1) + 1)) (s.1 139 83 - 1) ((40 * s.1 139 28) + s.1 188 (s.1 139 83 - 1)) (s.1 189 (s.1 139 83 - 1)) (fun s9 => Q s9))))) ∧ (s.1 146 ((40 * s.1 139 28) + s.1 188 (s.1 139 83 - 1)) = 16 → K_X11_step_110 (ui s 189 (s.1 139 83 - 1) (s.1 189 (s.1 139 83 - 1) + 1)) (s.1 139 83 - 1) ((40 * s.1 139 28) + s.1 188 (s.1 139 83 - 1)) (s.1 146 ((40 * s.1 139 28) + s.1 188 (s.1 139 83 - 1))) (s.1 189 (s.1 139 83 - 1)) Q))))) ∧ (s.1 146 ((40 * s.1 139 28) + s.1 188 (s.1 139 83 - 1)) = 3 → (C_X11_valueOf (ui s 189 (s.1 139 83 - 1) (s.1 189 (s.1 139 83 - 1) + 1)) 4 (s.1 188 (s.1 139 83 - 1)) (s.1 190 (s.1 139 83 - 1)) (-1) (fun s10 v10 => (C_X11_gives s10 v10 (fun s11 => Q s11))))))) ∧ ((F_X11_kidsOf (ui s 189 (s.1 139 83 - 1) (s.1 189 (s.1 139 83 - 1) + 1)) (s.1 146 ((40 * s.1 139 28) + s.1 188 (s.1 139 83 - 1)))) = 0 → (C_X11_stepLeaf (ui s 189 (s.1 139 83 - 1) (s.1 189 (s.1 139 83 - 1) + 1)) (s.1 139 83 - 1) ((40 * s.1 139 28) + s.1 188 (s.1 139 83 - 1)) (s.1 146 ((40 * s.1 139 28) + s.1 188 (s.1 139 83 - 1))) (s.1 189 (s.1 139 83 - 1)) (fun s12 => Q s12))))))))))) : C_X11_step s Q := by
  refine ⟨?_, trivial⟩
  intro hA
  have h := h hA
  refine q_enter (by decide) (Nat.le_of_ble_eq_true rfl) ?_
  refine q_aload_n eX11_step_0 rfl ?_
  refine q_getf (c := 11) (n := 0) (k := 83) (v := .int (Int32.ofInt (s.1 139 83))) eX11_step_1 rfl (by decide) (by decide) fX11_575 rfl ?_
  refine q_ic (v := Int32.ofInt 1) eX11_step_4 rfl ?_
  refine z_isub eX11_step_5 ?_
  have r1 := h.1
  have h := h.2
  refine q_istore_n eX11_step_6 (Nat.le_of_ble_eq_true rfl) ?_
  refine q_aload_n eX11_step_7 rfl ?_
  refine q_getR (c := 11) (n := 0) (k := 72) (a := 188) eX11_step_8 rfl (by decide) (by decide) fX11_164 rfl rfl ?_
  refine q_iload_n eX11_step_11 rfl ?_
  have f2 := h.1
  have h := h.2
  refine z_iald (n := 152) eX11_step_12 rfl (ofz r1) f2 ?_
  refine q_topI (v := Int32.ofInt (s.1 188 (s.1 139 83 - 1))) rfl ?_
  refine q_istore_n eX11_step_13 (Nat.le_of_ble_eq_true rfl) ?_
  refine q_bi (v := Int32.ofInt 40) eX11_step_14 rfl ?_
  refine q_aload_n eX11_step_16 rfl ?_
  refine q_getf (c := 11) (n := 0) (k := 28) (v := .int (Int32.ofInt (s.1 139 28))) eX11_step_17 rfl (by decide) (by decide) fX11_321 rfl ?_
  refine z_imul eX11_step_20 ?_
  have r3 := h.1
  have h := h.2
  refine q_iload_n eX11_step_21 rfl ?_
  refine z_iadd eX11_step_22 ?_
  have r4 := h.1
  have h := h.2
  refine q_istore_n eX11_step_23 (Nat.le_of_ble_eq_true rfl) ?_
  refine q_aload_n eX11_step_24 rfl ?_
  refine q_getR (c := 11) (n := 0) (k := 15) (a := 146) eX11_step_25 rfl (by decide) (by decide) fX11_33 rfl rfl ?_
  refine q_iload_n eX11_step_28 rfl ?_
  have f5 := h.1
  have h := h.2
  refine z_iald (n := 240) eX11_step_29 rfl (ofz r4) f5 ?_
  refine q_topI (v := Int32.ofInt (s.1 146 ((40 * s.1 139 28) + s.1 188 (s.1 139 83 - 1)))) rfl ?_
  refine q_istore eX11_step_30 (Nat.le_of_ble_eq_true rfl) ?_
  refine q_aload_n eX11_step_32 rfl ?_
  refine q_getR (c := 11) (n := 0) (k := 73) (a := 189) eX11_step_33 rfl (by decide) (by decide) fX11_167 rfl rfl ?_
  refine q_iload_n eX11_step_36 rfl ?_
  refine z_iald (n := 152) eX11_step_37 rfl (ofz r1) f2 ?_
  refine q_topI (v := Int32.ofInt (s.1 189 (s.1 139 83 - 1))) rfl ?_
  refine q_istore eX11_step_38 (Nat.le_of_ble_eq_true rfl) ?_
  refine q_aload_n eX11_step_40 rfl ?_
  refine q_getR (c := 11) (n := 0) (k := 73) (a := 189) eX11_step_41 rfl (by decide) (by decide) fX11_167 rfl rfl ?_
  refine q_iload_n eX11_step_44 rfl ?_
  refine q_dup2 eX11_step_45 rfl rfl ?_
  refine z_iald (n := 152) eX11_step_46 rfl (ofz r1) f2 ?_
  refine q_topI (v := Int32.ofInt (s.1 189 (s.1 139 83 - 1))) rfl ?_
  refine q_ic (v := Int32.ofInt 1) eX11_step_47 rfl ?_
  refine z_iadd eX11_step_48 ?_
  have r6 := h.1
  have h := h.2
  refine z_iast (n := 152) eX11_step_49 rfl (ofz r1) f2  ?_
  refine q_iload eX11_step_50 rfl ?_
  refine q_S1 eX11_step_52 DX11_kidsOf lX11_365 rfl rfl rfl (p_X11_kidsOf (ra_ui hA r6) (hA _ _)) ?_
  rintro _ _ ⟨r7, rfl, rfl⟩
  refine q_iz_ne (tgt := 71) (a := (F_X11_kidsOf (ui s 189 (s.1 139 83 - 1) (s.1 189 (s.1 139 83 - 1) + 1)) (s.1 146 ((40 * s.1 139 28) + s.1 188 (s.1 139 83 - 1))))) eX11_step_55 (by decide) (ofz r7) (fun c55 => ?_) (fun c55 => ?_)
  · have h := h.1 c55
    refine q_iload eX11_step_71 rfl ?_
    refine q_ic (v := Int32.ofInt 3) eX11_step_73 rfl ?_
    refine q_cz_ne (tgt := 97) (a := s.1 146 ((40 * s.1 139 28) + s.1 188 (s.1 139 83 - 1))) (b := 3) eX11_step_74 (by decide) (ofz (hA _ _)) (ofz (r32l rfl)) (fun c74 => ?_) (fun c74 => ?_)
    · have h := h.1 c74
      refine q_iload eX11_step_97 rfl ?_
      refine q_ic (v := Int32.ofInt 4) eX11_step_99 rfl ?_
      refine q_cz_eq (tgt := 110) (a := s.1 146 ((40 * s.1 139 28) + s.1 188 (s.1 139 83 - 1))) (b := 4) eX11_step_100 (by decide) (ofz (hA _ _)) (ofz (r32l rfl)) (fun c100 => ?_) (fun c100 => ?_)
      · have h := h.1 c100
        exact q_subL rfl (h.1 (ra_ui hA r6) r1 r4 (hA _ _) (hA _ _))
      · have h := h.2 c100
        refine q_iload eX11_step_103 rfl ?_
        refine q_bi (v := Int32.ofInt 16) eX11_step_105 rfl ?_
        refine q_cz_ne (tgt := 161) (a := s.1 146 ((40 * s.1 139 28) + s.1 188 (s.1 139 83 - 1))) (b := 16) eX11_step_107 (by decide) (ofz (hA _ _)) (ofz (r32l rfl)) (fun c107 => ?_) (fun c107 => ?_)
        · have h := h.1 c107
          refine q_iload eX11_step_161 rfl ?_
          refine q_ic (v := Int32.ofInt 5) eX11_step_163 rfl ?_
          refine q_cz_ne (tgt := 178) (a := s.1 146 ((40 * s.1 139 28) + s.1 188 (s.1 139 83 - 1))) (b := 5) eX11_step_164 (by decide) (ofz (hA _ _)) (ofz (r32l rfl)) (fun c164 => ?_) (fun c164 => ?_)
          · have h := h.1 c164
            refine q_iload eX11_step_178 rfl ?_
            refine q_iload eX11_step_180 rfl ?_
            refine q_S1 eX11_step_182 DX11_kidsOf lX11_365 rfl rfl rfl (p_X11_kidsOf (ra_ui hA r6) (hA _ _)) ?_
            rintro _ _ ⟨r8, rfl, rfl⟩
            refine q_cz_ge (tgt := 228) (a := s.1 189 (s.1 139 83 - 1)) (b := (F_X11_kidsOf (ui s 189 (s.1 139 83 - 1) (s.1 189 (s.1 139 83 - 1) + 1)) (s.1 146 ((40 * s.1 139 28) + s.1 188 (s.1 139 83 - 1))))) eX11_step_185 (by decide) (ofz (hA _ _)) (ofz r8) (fun c185 => ?_) (fun c185 => ?_)
            · have h := h.1 c185
              refine q_iload eX11_step_228 rfl ?_
              refine q_bi (v := Int32.ofInt 6) eX11_step_230 rfl ?_
              refine q_cz_ne (tgt := 254) (a := s.1 146 ((40 * s.1 139 28) + s.1 188 (s.1 139 83 - 1))) (b := 6) eX11_step_232 (by decide) (ofz (hA _ _)) (ofz (r32l rfl)) (fun c232 => ?_) (fun c232 => ?_)
              · have h := h.1 c232
                exact q_subL rfl (h.1 (ra_ui hA r6) r1 (hA _ _))
              · have h := h.2 c232
                refine q_iload eX11_step_235 rfl ?_
                refine q_ic (v := Int32.ofInt 3) eX11_step_237 rfl ?_
                refine q_cz_ne (tgt := 254) (a := s.1 189 (s.1 139 83 - 1)) (b := 3) eX11_step_238 (by decide) (ofz (hA _ _)) (ofz (r32l rfl)) (fun c238 => ?_) (fun c238 => ?_)
                · have h := h.1 c238
                  exact q_subL rfl (h.1 (ra_ui hA r6) r1 (hA _ _))
                · have h := h.2 c238
                  refine q_aload_n eX11_step_241 rfl ?_
                  refine q_dup eX11_step_242 rfl ?_
                  refine q_getf (c := 11) (n := 0) (k := 83) (v := .int (Int32.ofInt (s.1 139 83))) eX11_step_243 rfl (by decide) (by decide) fX11_575 rfl ?_
                  refine q_ic (v := Int32.ofInt 1) eX11_step_246 rfl ?_
                  refine z_isub eX11_step_247 ?_
                  refine z_putI (c := 11) (n := 0) (k := 83) (kz := 83) eX11_step_248 rfl (by decide) (by decide) fX11_575 rfl rfl rfl ?_
                  refine q_goto (tgt := 303) eX11_step_251 (by decide) ?_
                  exact q_ret eX11_step_303 rfl ⟨_, rfl, (ra_ui (ra_ui hA r6) r1), rfl, h⟩
            · have h := h.2 c185
              refine q_iload eX11_step_188 rfl ?_
              refine q_ic (v := Int32.ofInt 1) eX11_step_190 rfl ?_
              refine q_cz_ne (tgt := 204) (a := s.1 189 (s.1 139 83 - 1)) (b := 1) eX11_step_191 (by decide) (ofz (hA _ _)) (ofz (r32l rfl)) (fun c191 => ?_) (fun c191 => ?_)
              · have h := h.1 c191
                exact q_subL rfl (h.1 (ra_ui hA r6) r1 r4 (hA _ _))
              · have h := h.2 c191
                refine q_aload_n eX11_step_194 rfl ?_
                refine q_getR (c := 11) (n := 0) (k := 75) (a := 191) eX11_step_195 rfl (by decide) (by decide) fX11_173 rfl rfl ?_
                refine q_iload_n eX11_step_198 rfl ?_
                refine q_aload_n eX11_step_199 rfl ?_
                refine q_getf (c := 11) (n := 0) (k := 87) (v := .int (Int32.ofInt (s.1 139 87))) eX11_step_200 rfl (by decide) (by decide) fX11_603 rfl ?_
                refine z_iast (n := 152) eX11_step_203 rfl (ofz r1) f2  ?_
                exact q_subL rfl (h.1 (ra_ui (ra_ui hA r6) (hA _ _)) r1 r4 (hA _ _))
          · have h := h.2 c164
            refine q_aload_n eX11_step_167 rfl ?_
            refine q_iload_n eX11_step_168 rfl ?_
            refine q_iload_n eX11_step_169 rfl ?_
            refine q_iload eX11_step_170 rfl ?_
            refine q_V3 (ci := 11) (n := 0) eX11_step_172 DX11_stepIf lX11_600 rfl (by decide) rfl rfl rfl rfl (h.1 (ra_ui hA r6) r1 r4 (hA _ _)) ?_
            rintro _ _ ⟨s9, rfl, hA9, rfl, h⟩
            refine q_goto (tgt := 303) eX11_step_175 (by decide) ?_
            exact q_ret eX11_step_303 rfl ⟨_, rfl, hA9, rfl, h⟩
        · have h := h.2 c107
          exact q_subL rfl (h.1 (ra_ui hA r6) r1 r4 (hA _ _) (hA _ _))
    · have h := h.2 c74
      refine q_aload_n eX11_step_77 rfl ?_
      refine q_aload_n eX11_step_78 rfl ?_
      refine q_ic (v := Int32.ofInt 4) eX11_step_79 rfl ?_
      refine q_iload_n eX11_step_80 rfl ?_
      refine q_aload_n eX11_step_81 rfl ?_
      refine q_getR (c := 11) (n := 0) (k := 74) (a := 190) eX11_step_82 rfl (by decide) (by decide) fX11_170 rfl rfl ?_
      refine q_iload_n eX11_step_85 rfl ?_
      refine z_iald (n := 152) eX11_step_86 rfl (ofz r1) f2 ?_
      refine q_topI (v := Int32.ofInt (s.1 190 (s.1 139 83 - 1))) rfl ?_
      refine q_ic (v := Int32.ofInt (-1)) eX11_step_87 rfl ?_
      refine q_V4 (ci := 11) (n := 0) eX11_step_88 DX11_valueOf lX11_594 rfl (by decide) rfl rfl rfl rfl (h.1 (ra_ui hA r6) (r32l rfl) (hA _ _) (hA _ _) (r32l rfl)) ?_
      rintro _ _ ⟨s10, v10, rfl, hA10, r10, rfl, h⟩
      refine q_V1 (ci := 11) (n := 0) eX11_step_91 DX11_gives lX11_597 rfl (by decide) rfl rfl rfl rfl (h.1 hA10 r10) ?_
      rintro _ _ ⟨s11, rfl, hA11, rfl, h⟩
      refine q_goto (tgt := 303) eX11_step_94 (by decide) ?_
      exact q_ret eX11_step_303 rfl ⟨_, rfl, hA11, rfl, h⟩
  · have h := h.2 c55
    refine q_aload_n eX11_step_58 rfl ?_
    refine q_iload_n eX11_step_59 rfl ?_
    refine q_iload_n eX11_step_60 rfl ?_
    refine q_iload eX11_step_61 rfl ?_
    refine q_iload eX11_step_63 rfl ?_
    refine q_V4 (ci := 11) (n := 0) eX11_step_65 DX11_stepLeaf lX11_590 rfl (by decide) rfl rfl rfl rfl (h.1 (ra_ui hA r6) r1 r4 (hA _ _) (hA _ _)) ?_
    rintro _ _ ⟨s12, rfl, hA12, rfl, h⟩
    refine q_goto (tgt := 303) eX11_step_68 (by decide) ?_
    exact q_ret eX11_step_303 rfl ⟨_, rfl, hA12, rfl, h⟩
theorem eX11_runs_0 : decode cX11_runs 0 = .ok (.aload_n 0, 1) := by decide +kernel
theorem eX11_runs_1 : decode cX11_runs 1 = .ok (.iconst 0, 1) := by decide +kernel
theorem eX11_runs_2 : decode cX11_runs 2 = .ok (.putfield 575, 3) := by decide +kernel
theorem eX11_runs_5 : decode cX11_runs 5 = .ok (.aload_n 0, 1) := by decide +kernel
theorem eX11_runs_6 : decode cX11_runs 6 = .ok (.iconst 0, 1) := by decide +kernel
theorem eX11_runs_7 : decode cX11_runs 7 = .ok (.putfield 572, 3) := by decide +kernel
theorem eX11_runs_10 : decode cX11_runs 10 = .ok (.aload_n 0, 1) := by decide +kernel
theorem eX11_runs_11 : decode cX11_runs 11 = .ok (.iconst 0, 1) := by decide +kernel
theorem eX11_runs_12 : decode cX11_runs 12 = .ok (.putfield 569, 3) := by decide +kernel
theorem eX11_runs_15 : decode cX11_runs 15 = .ok (.aload_n 0, 1) := by decide +kernel
theorem eX11_runs_16 : decode cX11_runs 16 = .ok (.iconst 0, 1) := by decide +kernel
theorem eX11_runs_17 : decode cX11_runs 17 = .ok (.putfield 581, 3) := by decide +kernel
theorem eX11_runs_20 : decode cX11_runs 20 = .ok (.aload_n 0, 1) := by decide +kernel
theorem eX11_runs_21 : decode cX11_runs 21 = .ok (.iconst 0, 1) := by decide +kernel
theorem eX11_runs_22 : decode cX11_runs 22 = .ok (.putfield 578, 3) := by decide +kernel
theorem eX11_runs_25 : decode cX11_runs 25 = .ok (.aload_n 0, 1) := by decide +kernel
theorem eX11_runs_26 : decode cX11_runs 26 = .ok (.aload_n 0, 1) := by decide +kernel
theorem eX11_runs_27 : decode cX11_runs 27 = .ok (.getfield 30, 3) := by decide +kernel
theorem eX11_runs_30 : decode cX11_runs 30 = .ok (.bipush 8, 2) := by decide +kernel
theorem eX11_runs_32 : decode cX11_runs 32 = .ok (.aload_n 0, 1) := by decide +kernel
theorem eX11_runs_33 : decode cX11_runs 33 = .ok (.getfield 321, 3) := by decide +kernel
theorem eX11_runs_36 : decode cX11_runs 36 = .ok (.imul, 1) := by decide +kernel
theorem eX11_runs_37 : decode cX11_runs 37 = .ok (.aload_n 0, 1) := by decide +kernel
theorem eX11_runs_38 : decode cX11_runs 38 = .ok (.getfield 24, 3) := by decide +kernel
theorem eX11_runs_41 : decode cX11_runs 41 = .ok (.aload_n 0, 1) := by decide +kernel
theorem eX11_runs_42 : decode cX11_runs 42 = .ok (.getfield 321, 3) := by decide +kernel
theorem eX11_runs_45 : decode cX11_runs 45 = .ok (.iaload, 1) := by decide +kernel
theorem eX11_runs_46 : decode cX11_runs 46 = .ok (.iadd, 1) := by decide +kernel
theorem eX11_runs_47 : decode cX11_runs 47 = .ok (.iconst 1, 1) := by decide +kernel
theorem eX11_runs_48 : decode cX11_runs 48 = .ok (.isub, 1) := by decide +kernel
theorem eX11_runs_49 : decode cX11_runs 49 = .ok (.iaload, 1) := by decide +kernel
theorem eX11_runs_50 : decode cX11_runs 50 = .ok (.iconst (-1), 1) := by decide +kernel
theorem eX11_runs_51 : decode cX11_runs 51 = .ok (.invokevirtual 584, 3) := by decide +kernel
theorem eX11_runs_54 : decode cX11_runs 54 = .ok (.aload_n 0, 1) := by decide +kernel
theorem eX11_runs_55 : decode cX11_runs 55 = .ok (.getfield 575, 3) := by decide +kernel
theorem eX11_runs_58 : decode cX11_runs 58 = .ok (.ifCond .le 17, 3) := by decide +kernel
theorem eX11_runs_61 : decode cX11_runs 61 = .ok (.aload_n 0, 1) := by decide +kernel
theorem eX11_runs_62 : decode cX11_runs 62 = .ok (.getfield 578, 3) := by decide +kernel
theorem eX11_runs_65 : decode cX11_runs 65 = .ok (.ifCond .ne 10, 3) := by decide +kernel
theorem eX11_runs_68 : decode cX11_runs 68 = .ok (.aload_n 0, 1) := by decide +kernel
theorem eX11_runs_69 : decode cX11_runs 69 = .ok (.invokevirtual 587, 3) := by decide +kernel
theorem eX11_runs_72 : decode cX11_runs 72 = .ok (.goto (-18), 3) := by decide +kernel
theorem eX11_runs_75 : decode cX11_runs 75 = .ok (.return_, 1) := by decide +kernel
def C_X11_runs (s : ST) (Q : ST → Prop) : Prop := bx <| RA s → q_met mX11_runs (qs layM s) [.ref 139] (PV layM Q)
theorem C_X11_runs.mono {s : ST} {Q Q' : ST → Prop} (h : C_X11_runs s Q) (hq : ∀ s, Q s → Q' s) : C_X11_runs s Q' := ⟨fun hA => q_met.mono (h.1 hA) (fun _ _ => PV.mono hq), trivial⟩
def K_X11_runs_54 (s : ST) (Q : ST → Prop) : Prop := bx <| RA s → q_K mX11_runs (qs layM s) 0 0 54 [(0, .ref 139)] [] (q_fin mX11_runs (PV layM Q))
set_option maxRecDepth 20000 in
theorem s_X11_runs_54 {s : ST} {Q : ST → Prop} (h : RA s → ((s.1 139 83 ≤ 0 → Q s) ∧ (¬ s.1 139 83 ≤ 0 → ((¬ s.1 139 88 = 0 → Q s) ∧ (s.1 139 88 = 0 → (C_X11_step s (fun s1 => K_X11_runs_54 s1 Q))))))) : K_X11_runs_54 s Q := by
  refine ⟨?_, trivial⟩
  intro hA
  have h := h hA
  refine q_aload_n eX11_runs_54 rfl ?_
  refine q_getf (c := 11) (n := 0) (k := 83) (v := .int (Int32.ofInt (s.1 139 83))) eX11_runs_55 rfl (by decide) (by decide) fX11_575 rfl ?_
  refine q_iz_le (tgt := 75) (a := s.1 139 83) eX11_runs_58 (by decide) (ofz (hA _ _)) (fun c58 => ?_) (fun c58 => ?_)
  · have h := h.1 c58
    exact q_ret eX11_runs_75 rfl ⟨_, rfl, hA, rfl, h⟩
  · have h := h.2 c58
    refine q_aload_n eX11_runs_61 rfl ?_
    refine q_getf (c := 11) (n := 0) (k := 88) (v := .int (Int32.ofInt (s.1 139 88))) eX11_runs_62 rfl (by decide) (by decide) fX11_578 rfl ?_
    refine q_iz_ne (tgt := 75) (a := s.1 139 88) eX11_runs_65 (by decide) (ofz (hA _ _)) (fun c65 => ?_) (fun c65 => ?_)
    · have h := h.1 c65
      exact q_ret eX11_runs_75 rfl ⟨_, rfl, hA, rfl, h⟩
    · have h := h.2 c65
      refine q_aload_n eX11_runs_68 rfl ?_
      refine q_V0 (ci := 11) (n := 0) eX11_runs_69 DX11_step lX11_587 rfl (by decide) rfl rfl rfl rfl (h.1 hA) ?_
      rintro _ _ ⟨s1, rfl, hA1, rfl, h⟩
      refine q_goto (tgt := 54) eX11_runs_72 (by decide) ?_
      exact q_subL rfl (h.1 hA1)
set_option maxRecDepth 20000 in
theorem s_X11_runs {s : ST} {Q : ST → Prop} (h : RA s → (R32 (8 * s.1 139 28) ∧ (((0 : Int) ≤ s.1 139 28 ∧ s.1 139 28 < 6) ∧ (R32 ((8 * s.1 139 28) + s.1 143 (s.1 139 28)) ∧ (R32 (((8 * s.1 139 28) + s.1 143 (s.1 139 28)) - 1) ∧ (((0 : Int) ≤ (((8 * s.1 139 28) + s.1 143 (s.1 139 28)) - 1) ∧ (((8 * s.1 139 28) + s.1 143 (s.1 139 28)) - 1) < 48) ∧ (C_X11_works (ui (ui (ui (ui (ui s 139 83 0) 139 84 0) 139 85 0) 139 86 0) 139 88 0) (s.1 145 (((8 * s.1 139 28) + s.1 143 (s.1 139 28)) - 1)) (-1) (fun s6 => K_X11_runs_54 s6 Q)))))))) : C_X11_runs s Q := by
  refine ⟨?_, trivial⟩
  intro hA
  have h := h hA
  refine q_enter (by decide) (Nat.le_of_ble_eq_true rfl) ?_
  refine q_aload_n eX11_runs_0 rfl ?_
  refine q_ic (v := Int32.ofInt 0) eX11_runs_1 rfl ?_
  refine z_putI (c := 11) (n := 0) (k := 83) (kz := 83) eX11_runs_2 rfl (by decide) (by decide) fX11_575 rfl rfl rfl ?_
  refine q_aload_n eX11_runs_5 rfl ?_
  refine q_ic (v := Int32.ofInt 0) eX11_runs_6 rfl ?_
  refine z_putI (c := 11) (n := 0) (k := 84) (kz := 84) eX11_runs_7 rfl (by decide) (by decide) fX11_572 rfl rfl rfl ?_
  refine q_aload_n eX11_runs_10 rfl ?_
  refine q_ic (v := Int32.ofInt 0) eX11_runs_11 rfl ?_
  refine z_putI (c := 11) (n := 0) (k := 85) (kz := 85) eX11_runs_12 rfl (by decide) (by decide) fX11_569 rfl rfl rfl ?_
  refine q_aload_n eX11_runs_15 rfl ?_
  refine q_ic (v := Int32.ofInt 0) eX11_runs_16 rfl ?_
  refine z_putI (c := 11) (n := 0) (k := 86) (kz := 86) eX11_runs_17 rfl (by decide) (by decide) fX11_581 rfl rfl rfl ?_
  refine q_aload_n eX11_runs_20 rfl ?_
  refine q_ic (v := Int32.ofInt 0) eX11_runs_21 rfl ?_
  refine z_putI (c := 11) (n := 0) (k := 88) (kz := 88) eX11_runs_22 rfl (by decide) (by decide) fX11_578 rfl rfl rfl ?_
  refine q_aload_n eX11_runs_25 rfl ?_
  refine q_aload_n eX11_runs_26 rfl ?_
  refine q_getR (c := 11) (n := 0) (k := 14) (a := 145) eX11_runs_27 rfl (by decide) (by decide) fX11_30 rfl rfl ?_
  refine q_bi (v := Int32.ofInt 8) eX11_runs_30 rfl ?_
  refine q_aload_n eX11_runs_32 rfl ?_
  refine q_getf (c := 11) (n := 0) (k := 28) (v := .int (Int32.ofInt (s.1 139 28))) eX11_runs_33 rfl (by decide) (by decide) fX11_321 rfl ?_
  refine z_imul eX11_runs_36 ?_
  have r1 := h.1
  have h := h.2
  refine q_aload_n eX11_runs_37 rfl ?_
  refine q_getR (c := 11) (n := 0) (k := 12) (a := 143) eX11_runs_38 rfl (by decide) (by decide) fX11_24 rfl rfl ?_
  refine q_aload_n eX11_runs_41 rfl ?_
  refine q_getf (c := 11) (n := 0) (k := 28) (v := .int (Int32.ofInt (s.1 139 28))) eX11_runs_42 rfl (by decide) (by decide) fX11_321 rfl ?_
  have f2 := h.1
  have h := h.2
  refine z_iald (n := 6) eX11_runs_45 rfl (ofz (hA _ _)) f2 ?_
  refine q_topI (v := Int32.ofInt (s.1 143 (s.1 139 28))) rfl ?_
  refine z_iadd eX11_runs_46 ?_
  have r3 := h.1
  have h := h.2
  refine q_ic (v := Int32.ofInt 1) eX11_runs_47 rfl ?_
  refine z_isub eX11_runs_48 ?_
  have r4 := h.1
  have h := h.2
  have f5 := h.1
  have h := h.2
  refine z_iald (n := 48) eX11_runs_49 rfl (ofz r4) f5 ?_
  refine q_topI (v := Int32.ofInt (s.1 145 (((8 * s.1 139 28) + s.1 143 (s.1 139 28)) - 1))) rfl ?_
  refine q_ic (v := Int32.ofInt (-1)) eX11_runs_50 rfl ?_
  refine q_V2 (ci := 11) (n := 0) eX11_runs_51 DX11_works lX11_584 rfl (by decide) rfl rfl rfl rfl (h.1 (ra_ui (ra_ui (ra_ui (ra_ui (ra_ui hA (r32l rfl)) (r32l rfl)) (r32l rfl)) (r32l rfl)) (r32l rfl)) (hA _ _) (r32l rfl)) ?_
  rintro _ _ ⟨s6, rfl, hA6, rfl, h⟩
  exact q_subL rfl (h.1 hA6)
theorem eX11_run_0 : decode cX11_run 0 = .ok (.aload_n 0, 1) := by decide +kernel
theorem eX11_run_1 : decode cX11_run 1 = .ok (.getfield 24, 3) := by decide +kernel
theorem eX11_run_4 : decode cX11_run 4 = .ok (.aload_n 0, 1) := by decide +kernel
theorem eX11_run_5 : decode cX11_run 5 = .ok (.getfield 321, 3) := by decide +kernel
theorem eX11_run_8 : decode cX11_run 8 = .ok (.iaload, 1) := by decide +kernel
theorem eX11_run_9 : decode cX11_run 9 = .ok (.ifCond .eq 12, 3) := by decide +kernel
theorem eX11_run_12 : decode cX11_run 12 = .ok (.iload_n 1, 1) := by decide +kernel
theorem eX11_run_13 : decode cX11_run 13 = .ok (.iconst 0, 1) := by decide +kernel
theorem eX11_run_14 : decode cX11_run 14 = .ok (.iconst 1, 1) := by decide +kernel
theorem eX11_run_15 : decode cX11_run 15 = .ok (.invokestatic 379, 3) := by decide +kernel
theorem eX11_run_18 : decode cX11_run 18 = .ok (.ifCond .ne 5, 3) := by decide +kernel
theorem eX11_run_21 : decode cX11_run 21 = .ok (.iconst (-1), 1) := by decide +kernel
theorem eX11_run_22 : decode cX11_run 22 = .ok (.ireturn, 1) := by decide +kernel
theorem eX11_run_23 : decode cX11_run 23 = .ok (.aload_n 0, 1) := by decide +kernel
theorem eX11_run_24 : decode cX11_run 24 = .ok (.invokevirtual 615, 3) := by decide +kernel
theorem eX11_run_27 : decode cX11_run 27 = .ok (.aload_n 0, 1) := by decide +kernel
theorem eX11_run_28 : decode cX11_run 28 = .ok (.getfield 578, 3) := by decide +kernel
theorem eX11_run_31 : decode cX11_run 31 = .ok (.ifCond .eq 16, 3) := by decide +kernel
theorem eX11_run_34 : decode cX11_run 34 = .ok (.iload_n 1, 1) := by decide +kernel
theorem eX11_run_35 : decode cX11_run 35 = .ok (.ifCond .ne 10, 3) := by decide +kernel
theorem eX11_run_38 : decode cX11_run 38 = .ok (.aload_n 0, 1) := by decide +kernel
theorem eX11_run_39 : decode cX11_run 39 = .ok (.getfield 578, 3) := by decide +kernel
theorem eX11_run_42 : decode cX11_run 42 = .ok (.goto 4, 3) := by decide +kernel
theorem eX11_run_45 : decode cX11_run 45 = .ok (.iconst 0, 1) := by decide +kernel
theorem eX11_run_46 : decode cX11_run 46 = .ok (.ireturn, 1) := by decide +kernel
theorem eX11_run_47 : decode cX11_run 47 = .ok (.iload_n 1, 1) := by decide +kernel
theorem eX11_run_48 : decode cX11_run 48 = .ok (.ifCond .ne 15, 3) := by decide +kernel
theorem eX11_run_51 : decode cX11_run 51 = .ok (.aload_n 0, 1) := by decide +kernel
theorem eX11_run_52 : decode cX11_run 52 = .ok (.getfield 176, 3) := by decide +kernel
theorem eX11_run_55 : decode cX11_run 55 = .ok (.aload_n 0, 1) := by decide +kernel
theorem eX11_run_56 : decode cX11_run 56 = .ok (.getfield 603, 3) := by decide +kernel
theorem eX11_run_59 : decode cX11_run 59 = .ok (.iaload, 1) := by decide +kernel
theorem eX11_run_60 : decode cX11_run 60 = .ok (.goto 29, 3) := by decide +kernel
theorem eX11_run_63 : decode cX11_run 63 = .ok (.aload_n 0, 1) := by decide +kernel
theorem eX11_run_64 : decode cX11_run 64 = .ok (.getfield 176, 3) := by decide +kernel
theorem eX11_run_67 : decode cX11_run 67 = .ok (.aload_n 0, 1) := by decide +kernel
theorem eX11_run_68 : decode cX11_run 68 = .ok (.getfield 603, 3) := by decide +kernel
theorem eX11_run_71 : decode cX11_run 71 = .ok (.iaload, 1) := by decide +kernel
theorem eX11_run_72 : decode cX11_run 72 = .ok (.iconst 3, 1) := by decide +kernel
theorem eX11_run_73 : decode cX11_run 73 = .ok (.if_icmp .ge 15, 3) := by decide +kernel
theorem eX11_run_76 : decode cX11_run 76 = .ok (.aload_n 0, 1) := by decide +kernel
theorem eX11_run_77 : decode cX11_run 77 = .ok (.getfield 179, 3) := by decide +kernel
theorem eX11_run_80 : decode cX11_run 80 = .ok (.aload_n 0, 1) := by decide +kernel
theorem eX11_run_81 : decode cX11_run 81 = .ok (.getfield 603, 3) := by decide +kernel
theorem eX11_run_84 : decode cX11_run 84 = .ok (.iaload, 1) := by decide +kernel
theorem eX11_run_85 : decode cX11_run 85 = .ok (.goto 4, 3) := by decide +kernel
theorem eX11_run_88 : decode cX11_run 88 = .ok (.iconst 0, 1) := by decide +kernel
theorem eX11_run_89 : decode cX11_run 89 = .ok (.ireturn, 1) := by decide +kernel
def C_X11_run (s : ST) (p : Int) (Q : ST → Int → Prop) : Prop := bx <| RA s → R32 p → q_met mX11_run (qs layM s) [.ref 139, .int (Int32.ofInt p)] (PI layM Q)
theorem C_X11_run.mono {s : ST} {p : Int} {Q Q' : ST → Int → Prop} (h : C_X11_run s p Q) (hq : ∀ s v, Q s v → Q' s v) : C_X11_run s p Q' := ⟨fun hA hrp => q_met.mono (h.1 hA hrp) (fun _ _ => PI.mono hq), trivial⟩
set_option maxRecDepth 20000 in
theorem s_X11_run {s : ST} {p : Int} {Q : ST → Int → Prop} (h : RA s → R32 p → (((0 : Int) ≤ s.1 139 28 ∧ s.1 139 28 < 6) ∧ ((s.1 143 (s.1 139 28) = 0 → Q s (-1)) ∧ (¬ s.1 143 (s.1 139 28) = 0 → (((¬ p < 0 ∧ ¬ 1 < p) → (C_X11_runs s (fun s3 => ((s3.1 139 88 = 0 → ((¬ p = 0 → (((0 : Int) ≤ s3.1 139 87 ∧ s3.1 139 87 < 4100) ∧ ((3 ≤ s3.1 192 (s3.1 139 87) → Q s3 0) ∧ (¬ 3 ≤ s3.1 192 (s3.1 139 87) → Q s3 (s3.1 193 (s3.1 139 87)))))) ∧ (p = 0 → (((0 : Int) ≤ s3.1 139 87 ∧ s3.1 139 87 < 4100) ∧ Q s3 (s3.1 192 (s3.1 139 87)))))) ∧ (¬ s3.1 139 88 = 0 → ((¬ p = 0 → Q s3 0) ∧ (p = 0 → Q s3 (s3.1 139 88)))))))) ∧ (¬ (¬ p < 0 ∧ ¬ 1 < p) → Q s (-1))))))) : C_X11_run s p Q := by
  refine ⟨?_, trivial⟩
  intro hA hrp
  have h := h hA hrp
  refine q_enter (by decide) (Nat.le_of_ble_eq_true rfl) ?_
  refine q_aload_n eX11_run_0 rfl ?_
  refine q_getR (c := 11) (n := 0) (k := 12) (a := 143) eX11_run_1 rfl (by decide) (by decide) fX11_24 rfl rfl ?_
  refine q_aload_n eX11_run_4 rfl ?_
  refine q_getf (c := 11) (n := 0) (k := 28) (v := .int (Int32.ofInt (s.1 139 28))) eX11_run_5 rfl (by decide) (by decide) fX11_321 rfl ?_
  have f1 := h.1
  have h := h.2
  refine z_iald (n := 6) eX11_run_8 rfl (ofz (hA _ _)) f1 ?_
  refine q_topI (v := Int32.ofInt (s.1 143 (s.1 139 28))) rfl ?_
  refine q_iz_eq (tgt := 21) (a := s.1 143 (s.1 139 28)) eX11_run_9 (by decide) (ofz (hA _ _)) (fun c9 => ?_) (fun c9 => ?_)
  · have h := h.1 c9
    refine q_ic (v := Int32.ofInt (-1)) eX11_run_21 rfl ?_
    exact q_iret eX11_run_22 rfl ⟨_, _, rfl, hA, (r32l rfl), rfl, h⟩
  · have h := h.2 c9
    refine q_iload_n eX11_run_12 rfl ?_
    refine q_ic (v := Int32.ofInt 0) eX11_run_13 rfl ?_
    refine q_ic (v := Int32.ofInt 1) eX11_run_14 rfl ?_
    refine q_S3 eX11_run_15 DX11_isIn lX11_379 rfl rfl rfl (p_X11_isIn hA hrp (r32l rfl) (r32l rfl)) ?_
    rintro _ _ ⟨b2, rfl, rfl⟩
    refine q_iz_ne (tgt := 23) (a := (F_X11_isIn s p 0 1)) eX11_run_18 (by decide) (ofz (r01 b2)) (fun c18 => ?_) (fun c18 => ?_)
    · have h := h.1 (n_X11_isIn.mp c18)
      refine q_aload_n eX11_run_23 rfl ?_
      refine q_V0 (ci := 11) (n := 0) eX11_run_24 DX11_runs lX11_615 rfl (by decide) rfl rfl rfl rfl (h.1 hA) ?_
      rintro _ _ ⟨s3, rfl, hA3, rfl, h⟩
      refine q_aload_n eX11_run_27 rfl ?_
      refine q_getf (c := 11) (n := 0) (k := 88) (v := .int (Int32.ofInt (s3.1 139 88))) eX11_run_28 rfl (by decide) (by decide) fX11_578 rfl ?_
      refine q_iz_eq (tgt := 47) (a := s3.1 139 88) eX11_run_31 (by decide) (ofz (hA3 _ _)) (fun c31 => ?_) (fun c31 => ?_)
      · have h := h.1 c31
        refine q_iload_n eX11_run_47 rfl ?_
        refine q_iz_ne (tgt := 63) (a := p) eX11_run_48 (by decide) (ofz hrp) (fun c48 => ?_) (fun c48 => ?_)
        · have h := h.1 c48
          refine q_aload_n eX11_run_63 rfl ?_
          refine q_getR (c := 11) (n := 0) (k := 76) (a := 192) eX11_run_64 rfl (by decide) (by decide) fX11_176 rfl rfl ?_
          refine q_aload_n eX11_run_67 rfl ?_
          refine q_getf (c := 11) (n := 0) (k := 87) (v := .int (Int32.ofInt (s3.1 139 87))) eX11_run_68 rfl (by decide) (by decide) fX11_603 rfl ?_
          have f4 := h.1
          have h := h.2
          refine z_iald (n := 4100) eX11_run_71 rfl (ofz (hA3 _ _)) f4 ?_
          refine q_topI (v := Int32.ofInt (s3.1 192 (s3.1 139 87))) rfl ?_
          refine q_ic (v := Int32.ofInt 3) eX11_run_72 rfl ?_
          refine q_cz_ge (tgt := 88) (a := s3.1 192 (s3.1 139 87)) (b := 3) eX11_run_73 (by decide) (ofz (hA3 _ _)) (ofz (r32l rfl)) (fun c73 => ?_) (fun c73 => ?_)
          · have h := h.1 c73
            refine q_ic (v := Int32.ofInt 0) eX11_run_88 rfl ?_
            exact q_iret eX11_run_89 rfl ⟨_, _, rfl, hA3, (r32l rfl), rfl, h⟩
          · have h := h.2 c73
            refine q_aload_n eX11_run_76 rfl ?_
            refine q_getR (c := 11) (n := 0) (k := 77) (a := 193) eX11_run_77 rfl (by decide) (by decide) fX11_179 rfl rfl ?_
            refine q_aload_n eX11_run_80 rfl ?_
            refine q_getf (c := 11) (n := 0) (k := 87) (v := .int (Int32.ofInt (s3.1 139 87))) eX11_run_81 rfl (by decide) (by decide) fX11_603 rfl ?_
            refine z_iald (n := 4100) eX11_run_84 rfl (ofz (hA3 _ _)) f4 ?_
            refine q_topI (v := Int32.ofInt (s3.1 193 (s3.1 139 87))) rfl ?_
            refine q_goto (tgt := 89) eX11_run_85 (by decide) ?_
            exact q_iret eX11_run_89 rfl ⟨_, _, rfl, hA3, (hA3 _ _), rfl, h⟩
        · have h := h.2 c48
          refine q_aload_n eX11_run_51 rfl ?_
          refine q_getR (c := 11) (n := 0) (k := 76) (a := 192) eX11_run_52 rfl (by decide) (by decide) fX11_176 rfl rfl ?_
          refine q_aload_n eX11_run_55 rfl ?_
          refine q_getf (c := 11) (n := 0) (k := 87) (v := .int (Int32.ofInt (s3.1 139 87))) eX11_run_56 rfl (by decide) (by decide) fX11_603 rfl ?_
          have f5 := h.1
          have h := h.2
          refine z_iald (n := 4100) eX11_run_59 rfl (ofz (hA3 _ _)) f5 ?_
          refine q_topI (v := Int32.ofInt (s3.1 192 (s3.1 139 87))) rfl ?_
          refine q_goto (tgt := 89) eX11_run_60 (by decide) ?_
          exact q_iret eX11_run_89 rfl ⟨_, _, rfl, hA3, (hA3 _ _), rfl, h⟩
      · have h := h.2 c31
        refine q_iload_n eX11_run_34 rfl ?_
        refine q_iz_ne (tgt := 45) (a := p) eX11_run_35 (by decide) (ofz hrp) (fun c35 => ?_) (fun c35 => ?_)
        · have h := h.1 c35
          refine q_ic (v := Int32.ofInt 0) eX11_run_45 rfl ?_
          exact q_iret eX11_run_46 rfl ⟨_, _, rfl, hA3, (r32l rfl), rfl, h⟩
        · have h := h.2 c35
          refine q_aload_n eX11_run_38 rfl ?_
          refine q_getf (c := 11) (n := 0) (k := 88) (v := .int (Int32.ofInt (s3.1 139 88))) eX11_run_39 rfl (by decide) (by decide) fX11_578 rfl ?_
          refine q_goto (tgt := 46) eX11_run_42 (by decide) ?_
          exact q_iret eX11_run_46 rfl ⟨_, _, rfl, hA3, (hA3 _ _), rfl, h⟩
    · have h := h.2 (fun q => n_X11_isIn.mpr q c18)
      refine q_ic (v := Int32.ofInt (-1)) eX11_run_21 rfl ?_
      exact q_iret eX11_run_22 rfl ⟨_, _, rfl, hA, (r32l rfl), rfl, h⟩
theorem eX11_right_0 : decode cX11_right 0 = .ok (.aload_n 0, 1) := by decide +kernel
theorem eX11_right_1 : decode cX11_right 1 = .ok (.iload_n 1, 1) := by decide +kernel
theorem eX11_right_2 : decode cX11_right 2 = .ok (.invokevirtual 383, 3) := by decide +kernel
theorem eX11_right_5 : decode cX11_right 5 = .ok (.ifCond .eq 12, 3) := by decide +kernel
theorem eX11_right_8 : decode cX11_right 8 = .ok (.aload_n 0, 1) := by decide +kernel
theorem eX11_right_9 : decode cX11_right 9 = .ok (.getfield 560, 3) := by decide +kernel
theorem eX11_right_12 : decode cX11_right 12 = .ok (.bipush 30, 2) := by decide +kernel
theorem eX11_right_14 : decode cX11_right 14 = .ok (.if_icmp .ne 5, 3) := by decide +kernel
theorem eX11_right_17 : decode cX11_right 17 = .ok (.iconst (-1), 1) := by decide +kernel
theorem eX11_right_18 : decode cX11_right 18 = .ok (.ireturn, 1) := by decide +kernel
theorem eX11_right_19 : decode cX11_right 19 = .ok (.aload_n 0, 1) := by decide +kernel
theorem eX11_right_20 : decode cX11_right 20 = .ok (.getfield 197, 3) := by decide +kernel
theorem eX11_right_23 : decode cX11_right 23 = .ok (.aload_n 0, 1) := by decide +kernel
theorem eX11_right_24 : decode cX11_right 24 = .ok (.getfield 560, 3) := by decide +kernel
theorem eX11_right_27 : decode cX11_right 27 = .ok (.iload_n 1, 1) := by decide +kernel
theorem eX11_right_28 : decode cX11_right 28 = .ok (.iastore, 1) := by decide +kernel
theorem eX11_right_29 : decode cX11_right 29 = .ok (.aload_n 0, 1) := by decide +kernel
theorem eX11_right_30 : decode cX11_right 30 = .ok (.getfield 200, 3) := by decide +kernel
theorem eX11_right_33 : decode cX11_right 33 = .ok (.aload_n 0, 1) := by decide +kernel
theorem eX11_right_34 : decode cX11_right 34 = .ok (.getfield 560, 3) := by decide +kernel
theorem eX11_right_37 : decode cX11_right 37 = .ok (.aload_n 0, 1) := by decide +kernel
theorem eX11_right_38 : decode cX11_right 38 = .ok (.getfield 618, 3) := by decide +kernel
theorem eX11_right_41 : decode cX11_right 41 = .ok (.iastore, 1) := by decide +kernel
theorem eX11_right_42 : decode cX11_right 42 = .ok (.aload_n 0, 1) := by decide +kernel
theorem eX11_right_43 : decode cX11_right 43 = .ok (.getfield 203, 3) := by decide +kernel
theorem eX11_right_46 : decode cX11_right 46 = .ok (.aload_n 0, 1) := by decide +kernel
theorem eX11_right_47 : decode cX11_right 47 = .ok (.getfield 560, 3) := by decide +kernel
theorem eX11_right_50 : decode cX11_right 50 = .ok (.iconst (-1), 1) := by decide +kernel
theorem eX11_right_51 : decode cX11_right 51 = .ok (.iastore, 1) := by decide +kernel
theorem eX11_right_52 : decode cX11_right 52 = .ok (.aload_n 0, 1) := by decide +kernel
theorem eX11_right_53 : decode cX11_right 53 = .ok (.dup, 1) := by decide +kernel
theorem eX11_right_54 : decode cX11_right 54 = .ok (.getfield 560, 3) := by decide +kernel
theorem eX11_right_57 : decode cX11_right 57 = .ok (.iconst 1, 1) := by decide +kernel
theorem eX11_right_58 : decode cX11_right 58 = .ok (.iadd, 1) := by decide +kernel
theorem eX11_right_59 : decode cX11_right 59 = .ok (.putfield 560, 3) := by decide +kernel
theorem eX11_right_62 : decode cX11_right 62 = .ok (.aload_n 0, 1) := by decide +kernel
theorem eX11_right_63 : decode cX11_right 63 = .ok (.getfield 560, 3) := by decide +kernel
theorem eX11_right_66 : decode cX11_right 66 = .ok (.iconst 1, 1) := by decide +kernel
theorem eX11_right_67 : decode cX11_right 67 = .ok (.isub, 1) := by decide +kernel
theorem eX11_right_68 : decode cX11_right 68 = .ok (.ireturn, 1) := by decide +kernel
def C_X11_right (s : ST) (p : Int) (Q : ST → Int → Prop) : Prop := bx <| RA s → R32 p → q_met mX11_right (qs layM s) [.ref 139, .int (Int32.ofInt p)] (PI layM Q)
theorem C_X11_right.mono {s : ST} {p : Int} {Q Q' : ST → Int → Prop} (h : C_X11_right s p Q) (hq : ∀ s v, Q s v → Q' s v) : C_X11_right s p Q' := ⟨fun hA hrp => q_met.mono (h.1 hA hrp) (fun _ _ => PI.mono hq), trivial⟩
set_option maxRecDepth 20000 in
theorem s_X11_right {s : ST} {p : Int} {Q : ST → Int → Prop} (h : RA s → R32 p → (P_X11_isPlace s p ∧ ((¬ (¬ (F_X11_isIn s p 0 (s.1 142 (s.1 139 28) - 1)) = 0) → Q s (-1)) ∧ ((¬ (F_X11_isIn s p 0 (s.1 142 (s.1 139 28) - 1)) = 0) → ((¬ s.1 139 92 = 30 → (((0 : Int) ≤ s.1 139 92 ∧ s.1 139 92 < 30) ∧ (R32 (s.1 139 92 + 1) ∧ (R32 ((s.1 139 92 + 1) - 1) ∧ Q (ui (ui (ui (ui s 199 (s.1 139 92) p) 200 (s.1 139 92) (s.1 139 93)) 201 (s.1 139 92) (-1)) 139 92 (s.1 139 92 + 1)) ((s.1 139 92 + 1) - 1))))) ∧ (s.1 139 92 = 30 → Q s (-1))))))) : C_X11_right s p Q := by
  refine ⟨?_, trivial⟩
  intro hA hrp
  have h := h hA hrp
  refine q_enter (by decide) (Nat.le_of_ble_eq_true rfl) ?_
  refine q_aload_n eX11_right_0 rfl ?_
  refine q_iload_n eX11_right_1 rfl ?_
  have f2 := h.1
  have h := h.2
  refine q_V1 (ci := 11) (n := 0) eX11_right_2 DX11_isPlace lX11_383 rfl (by decide) rfl rfl rfl rfl (p_X11_isPlace f2 hA hrp) ?_
  rintro _ _ ⟨b1, rfl, rfl⟩
  refine q_iz_eq (tgt := 17) (a := (F_X11_isPlace s p)) eX11_right_5 (by decide) (ofz (r01 b1)) (fun c5 => ?_) (fun c5 => ?_)
  · have h := h.1 (fun q => n_X11_isPlace.mpr q c5)
    refine q_ic (v := Int32.ofInt (-1)) eX11_right_17 rfl ?_
    exact q_iret eX11_right_18 rfl ⟨_, _, rfl, hA, (r32l rfl), rfl, h⟩
  · have h := h.2 (n_X11_isPlace.mp c5)
    refine q_aload_n eX11_right_8 rfl ?_
    refine q_getf (c := 11) (n := 0) (k := 92) (v := .int (Int32.ofInt (s.1 139 92))) eX11_right_9 rfl (by decide) (by decide) fX11_560 rfl ?_
    refine q_bi (v := Int32.ofInt 30) eX11_right_12 rfl ?_
    refine q_cz_ne (tgt := 19) (a := s.1 139 92) (b := 30) eX11_right_14 (by decide) (ofz (hA _ _)) (ofz (r32l rfl)) (fun c14 => ?_) (fun c14 => ?_)
    · have h := h.1 c14
      refine q_aload_n eX11_right_19 rfl ?_
      refine q_getR (c := 11) (n := 0) (k := 89) (a := 199) eX11_right_20 rfl (by decide) (by decide) fX11_197 rfl rfl ?_
      refine q_aload_n eX11_right_23 rfl ?_
      refine q_getf (c := 11) (n := 0) (k := 92) (v := .int (Int32.ofInt (s.1 139 92))) eX11_right_24 rfl (by decide) (by decide) fX11_560 rfl ?_
      refine q_iload_n eX11_right_27 rfl ?_
      have f3 := h.1
      have h := h.2
      refine z_iast (n := 30) eX11_right_28 rfl (ofz (hA _ _)) f3  ?_
      refine q_aload_n eX11_right_29 rfl ?_
      refine q_getR (c := 11) (n := 0) (k := 90) (a := 200) eX11_right_30 rfl (by decide) (by decide) fX11_200 rfl rfl ?_
      refine q_aload_n eX11_right_33 rfl ?_
      refine q_getf (c := 11) (n := 0) (k := 92) (v := .int (Int32.ofInt (s.1 139 92))) eX11_right_34 rfl (by decide) (by decide) fX11_560 rfl ?_
      refine q_aload_n eX11_right_37 rfl ?_
      refine q_getf (c := 11) (n := 0) (k := 93) (v := .int (Int32.ofInt (s.1 139 93))) eX11_right_38 rfl (by decide) (by decide) fX11_618 rfl ?_
      refine z_iast (n := 30) eX11_right_41 rfl (ofz (hA _ _)) f3  ?_
      refine q_aload_n eX11_right_42 rfl ?_
      refine q_getR (c := 11) (n := 0) (k := 91) (a := 201) eX11_right_43 rfl (by decide) (by decide) fX11_203 rfl rfl ?_
      refine q_aload_n eX11_right_46 rfl ?_
      refine q_getf (c := 11) (n := 0) (k := 92) (v := .int (Int32.ofInt (s.1 139 92))) eX11_right_47 rfl (by decide) (by decide) fX11_560 rfl ?_
      refine q_ic (v := Int32.ofInt (-1)) eX11_right_50 rfl ?_
      refine z_iast (n := 30) eX11_right_51 rfl (ofz (hA _ _)) f3  ?_
      refine q_aload_n eX11_right_52 rfl ?_
      refine q_dup eX11_right_53 rfl ?_
      refine q_getf (c := 11) (n := 0) (k := 92) (v := .int (Int32.ofInt (s.1 139 92))) eX11_right_54 rfl (by decide) (by decide) fX11_560 rfl ?_
      refine q_ic (v := Int32.ofInt 1) eX11_right_57 rfl ?_
      refine z_iadd eX11_right_58 ?_
      have r4 := h.1
      have h := h.2
      refine z_putI (c := 11) (n := 0) (k := 92) (kz := 92) eX11_right_59 rfl (by decide) (by decide) fX11_560 rfl rfl rfl ?_
      refine q_aload_n eX11_right_62 rfl ?_
      refine q_getf (c := 11) (n := 0) (k := 92) (v := .int (Int32.ofInt (s.1 139 92 + 1))) eX11_right_63 rfl (by decide) (by decide) fX11_560 rfl ?_
      refine q_ic (v := Int32.ofInt 1) eX11_right_66 rfl ?_
      refine z_isub eX11_right_67 ?_
      have r5 := h.1
      have h := h.2
      exact q_iret eX11_right_68 rfl ⟨_, _, rfl, (ra_ui (ra_ui (ra_ui (ra_ui hA hrp) (hA _ _)) (r32l rfl)) r4), r5, rfl, h⟩
    · have h := h.2 c14
      refine q_ic (v := Int32.ofInt (-1)) eX11_right_17 rfl ?_
      exact q_iret eX11_right_18 rfl ⟨_, _, rfl, hA, (r32l rfl), rfl, h⟩
theorem eX11_untell_0 : decode cX11_untell 0 = .ok (.iload_n 1, 1) := by decide +kernel
theorem eX11_untell_1 : decode cX11_untell 1 = .ok (.iconst 0, 1) := by decide +kernel
theorem eX11_untell_2 : decode cX11_untell 2 = .ok (.aload_n 0, 1) := by decide +kernel
theorem eX11_untell_3 : decode cX11_untell 3 = .ok (.getfield 560, 3) := by decide +kernel
theorem eX11_untell_6 : decode cX11_untell 6 = .ok (.iconst 1, 1) := by decide +kernel
theorem eX11_untell_7 : decode cX11_untell 7 = .ok (.isub, 1) := by decide +kernel
theorem eX11_untell_8 : decode cX11_untell 8 = .ok (.invokestatic 379, 3) := by decide +kernel
theorem eX11_untell_11 : decode cX11_untell 11 = .ok (.ifCond .eq 12, 3) := by decide +kernel
theorem eX11_untell_14 : decode cX11_untell 14 = .ok (.aload_n 0, 1) := by decide +kernel
theorem eX11_untell_15 : decode cX11_untell 15 = .ok (.getfield 203, 3) := by decide +kernel
theorem eX11_untell_18 : decode cX11_untell 18 = .ok (.iload_n 1, 1) := by decide +kernel
theorem eX11_untell_19 : decode cX11_untell 19 = .ok (.iaload, 1) := by decide +kernel
theorem eX11_untell_20 : decode cX11_untell 20 = .ok (.ifCond .lt 5, 3) := by decide +kernel
theorem eX11_untell_23 : decode cX11_untell 23 = .ok (.iconst 0, 1) := by decide +kernel
theorem eX11_untell_24 : decode cX11_untell 24 = .ok (.ireturn, 1) := by decide +kernel
theorem eX11_untell_25 : decode cX11_untell 25 = .ok (.aload_n 0, 1) := by decide +kernel
theorem eX11_untell_26 : decode cX11_untell 26 = .ok (.getfield 203, 3) := by decide +kernel
theorem eX11_untell_29 : decode cX11_untell 29 = .ok (.iload_n 1, 1) := by decide +kernel
theorem eX11_untell_30 : decode cX11_untell 30 = .ok (.aload_n 0, 1) := by decide +kernel
theorem eX11_untell_31 : decode cX11_untell 31 = .ok (.getfield 618, 3) := by decide +kernel
theorem eX11_untell_34 : decode cX11_untell 34 = .ok (.iastore, 1) := by decide +kernel
theorem eX11_untell_35 : decode cX11_untell 35 = .ok (.iconst 1, 1) := by decide +kernel
theorem eX11_untell_36 : decode cX11_untell 36 = .ok (.ireturn, 1) := by decide +kernel
def C_X11_untell (s : ST) (p : Int) (Q : ST → Int → Prop) : Prop := bx <| RA s → R32 p → q_met mX11_untell (qs layM s) [.ref 139, .int (Int32.ofInt p)] (PB layM Q)
theorem C_X11_untell.mono {s : ST} {p : Int} {Q Q' : ST → Int → Prop} (h : C_X11_untell s p Q) (hq : ∀ s v, Q s v → Q' s v) : C_X11_untell s p Q' := ⟨fun hA hrp => q_met.mono (h.1 hA hrp) (fun _ _ => PB.mono hq), trivial⟩
set_option maxRecDepth 20000 in
theorem s_X11_untell {s : ST} {p : Int} {Q : ST → Int → Prop} (h : RA s → R32 p → (R32 (s.1 139 92 - 1) ∧ ((¬ (¬ p < 0 ∧ ¬ (s.1 139 92 - 1) < p) → Q s 0) ∧ ((¬ p < 0 ∧ ¬ (s.1 139 92 - 1) < p) → (((0 : Int) ≤ p ∧ p < 30) ∧ ((s.1 201 p < 0 → Q (ui s 201 p (s.1 139 93)) 1) ∧ (¬ s.1 201 p < 0 → Q s 0))))))) : C_X11_untell s p Q := by
  refine ⟨?_, trivial⟩
  intro hA hrp
  have h := h hA hrp
  refine q_enter (by decide) (Nat.le_of_ble_eq_true rfl) ?_
  refine q_iload_n eX11_untell_0 rfl ?_
  refine q_ic (v := Int32.ofInt 0) eX11_untell_1 rfl ?_
  refine q_aload_n eX11_untell_2 rfl ?_
  refine q_getf (c := 11) (n := 0) (k := 92) (v := .int (Int32.ofInt (s.1 139 92))) eX11_untell_3 rfl (by decide) (by decide) fX11_560 rfl ?_
  refine q_ic (v := Int32.ofInt 1) eX11_untell_6 rfl ?_
  refine z_isub eX11_untell_7 ?_
  have r1 := h.1
  have h := h.2
  refine q_S3 eX11_untell_8 DX11_isIn lX11_379 rfl rfl rfl (p_X11_isIn hA hrp (r32l rfl) r1) ?_
  rintro _ _ ⟨b2, rfl, rfl⟩
  refine q_iz_eq (tgt := 23) (a := (F_X11_isIn s p 0 (s.1 139 92 - 1))) eX11_untell_11 (by decide) (ofz (r01 b2)) (fun c11 => ?_) (fun c11 => ?_)
  · have h := h.1 (fun q => n_X11_isIn.mpr q c11)
    refine q_ic (v := Int32.ofInt 0) eX11_untell_23 rfl ?_
    exact q_zret eX11_untell_24 rfl (z01 (Or.inl rfl)) ⟨_, _, rfl, hA, (Or.inl rfl), rfl, h⟩
  · have h := h.2 (n_X11_isIn.mp c11)
    refine q_aload_n eX11_untell_14 rfl ?_
    refine q_getR (c := 11) (n := 0) (k := 91) (a := 201) eX11_untell_15 rfl (by decide) (by decide) fX11_203 rfl rfl ?_
    refine q_iload_n eX11_untell_18 rfl ?_
    have f3 := h.1
    have h := h.2
    refine z_iald (n := 30) eX11_untell_19 rfl (ofz hrp) f3 ?_
    refine q_topI (v := Int32.ofInt (s.1 201 p)) rfl ?_
    refine q_iz_lt (tgt := 25) (a := s.1 201 p) eX11_untell_20 (by decide) (ofz (hA _ _)) (fun c20 => ?_) (fun c20 => ?_)
    · have h := h.1 c20
      refine q_aload_n eX11_untell_25 rfl ?_
      refine q_getR (c := 11) (n := 0) (k := 91) (a := 201) eX11_untell_26 rfl (by decide) (by decide) fX11_203 rfl rfl ?_
      refine q_iload_n eX11_untell_29 rfl ?_
      refine q_aload_n eX11_untell_30 rfl ?_
      refine q_getf (c := 11) (n := 0) (k := 93) (v := .int (Int32.ofInt (s.1 139 93))) eX11_untell_31 rfl (by decide) (by decide) fX11_618 rfl ?_
      refine z_iast (n := 30) eX11_untell_34 rfl (ofz hrp) f3  ?_
      refine q_ic (v := Int32.ofInt 1) eX11_untell_35 rfl ?_
      exact q_zret eX11_untell_36 rfl (z01 (Or.inr rfl)) ⟨_, _, rfl, (ra_ui hA (hA _ _)), (Or.inr rfl), rfl, h⟩
    · have h := h.2 c20
      refine q_ic (v := Int32.ofInt 0) eX11_untell_23 rfl ?_
      exact q_zret eX11_untell_24 rfl (z01 (Or.inl rfl)) ⟨_, _, rfl, hA, (Or.inl rfl), rfl, h⟩
theorem eX11_later_0 : decode cX11_later 0 = .ok (.iload_n 1, 1) := by decide +kernel
theorem eX11_later_1 : decode cX11_later 1 = .ok (.iconst 0, 1) := by decide +kernel
theorem eX11_later_2 : decode cX11_later 2 = .ok (.sipush 1000, 3) := by decide +kernel
theorem eX11_later_5 : decode cX11_later 5 = .ok (.invokestatic 379, 3) := by decide +kernel
theorem eX11_later_8 : decode cX11_later 8 = .ok (.ifCond .eq 15, 3) := by decide +kernel
theorem eX11_later_11 : decode cX11_later 11 = .ok (.aload_n 0, 1) := by decide +kernel
theorem eX11_later_12 : decode cX11_later 12 = .ok (.getfield 618, 3) := by decide +kernel
theorem eX11_later_15 : decode cX11_later 15 = .ok (.iload_n 1, 1) := by decide +kernel
theorem eX11_later_16 : decode cX11_later 16 = .ok (.iadd, 1) := by decide +kernel
theorem eX11_later_17 : decode cX11_later 17 = .ok (.ldc_w 621, 3) := by decide +kernel
theorem eX11_later_20 : decode cX11_later 20 = .ok (.if_icmp .le 5, 3) := by decide +kernel
theorem eX11_later_23 : decode cX11_later 23 = .ok (.iconst (-1), 1) := by decide +kernel
theorem eX11_later_24 : decode cX11_later 24 = .ok (.ireturn, 1) := by decide +kernel
theorem eX11_later_25 : decode cX11_later 25 = .ok (.aload_n 0, 1) := by decide +kernel
theorem eX11_later_26 : decode cX11_later 26 = .ok (.dup, 1) := by decide +kernel
theorem eX11_later_27 : decode cX11_later 27 = .ok (.getfield 618, 3) := by decide +kernel
theorem eX11_later_30 : decode cX11_later 30 = .ok (.iload_n 1, 1) := by decide +kernel
theorem eX11_later_31 : decode cX11_later 31 = .ok (.iadd, 1) := by decide +kernel
theorem eX11_later_32 : decode cX11_later 32 = .ok (.putfield 618, 3) := by decide +kernel
theorem eX11_later_35 : decode cX11_later 35 = .ok (.aload_n 0, 1) := by decide +kernel
theorem eX11_later_36 : decode cX11_later 36 = .ok (.getfield 618, 3) := by decide +kernel
theorem eX11_later_39 : decode cX11_later 39 = .ok (.ireturn, 1) := by decide +kernel
def C_X11_later (s : ST) (p : Int) (Q : ST → Int → Prop) : Prop := bx <| RA s → R32 p → q_met mX11_later (qs layM s) [.ref 139, .int (Int32.ofInt p)] (PI layM Q)
theorem C_X11_later.mono {s : ST} {p : Int} {Q Q' : ST → Int → Prop} (h : C_X11_later s p Q) (hq : ∀ s v, Q s v → Q' s v) : C_X11_later s p Q' := ⟨fun hA hrp => q_met.mono (h.1 hA hrp) (fun _ _ => PI.mono hq), trivial⟩
set_option maxRecDepth 20000 in
theorem s_X11_later {s : ST} {p : Int} {Q : ST → Int → Prop} (h : RA s → R32 p → ((¬ (¬ p < 0 ∧ ¬ 1000 < p) → Q s (-1)) ∧ ((¬ p < 0 ∧ ¬ 1000 < p) → (R32 (s.1 139 93 + p) ∧ (((s.1 139 93 + p) ≤ 100000 → Q (ui s 139 93 (s.1 139 93 + p)) (s.1 139 93 + p)) ∧ (¬ (s.1 139 93 + p) ≤ 100000 → Q s (-1))))))) : C_X11_later s p Q := by
  refine ⟨?_, trivial⟩
  intro hA hrp
  have h := h hA hrp
  refine q_enter (by decide) (Nat.le_of_ble_eq_true rfl) ?_
  refine q_iload_n eX11_later_0 rfl ?_
  refine q_ic (v := Int32.ofInt 0) eX11_later_1 rfl ?_
  refine q_si (v := Int32.ofInt 1000) eX11_later_2 rfl ?_
  refine q_S3 eX11_later_5 DX11_isIn lX11_379 rfl rfl rfl (p_X11_isIn hA hrp (r32l rfl) (r32l rfl)) ?_
  rintro _ _ ⟨b1, rfl, rfl⟩
  refine q_iz_eq (tgt := 23) (a := (F_X11_isIn s p 0 1000)) eX11_later_8 (by decide) (ofz (r01 b1)) (fun c8 => ?_) (fun c8 => ?_)
  · have h := h.1 (fun q => n_X11_isIn.mpr q c8)
    refine q_ic (v := Int32.ofInt (-1)) eX11_later_23 rfl ?_
    exact q_iret eX11_later_24 rfl ⟨_, _, rfl, hA, (r32l rfl), rfl, h⟩
  · have h := h.2 (n_X11_isIn.mp c8)
    refine q_aload_n eX11_later_11 rfl ?_
    refine q_getf (c := 11) (n := 0) (k := 93) (v := .int (Int32.ofInt (s.1 139 93))) eX11_later_12 rfl (by decide) (by decide) fX11_618 rfl ?_
    refine q_iload_n eX11_later_15 rfl ?_
    refine z_iadd eX11_later_16 ?_
    have r2 := h.1
    have h := h.2
    refine q_ldcw (v := 100000) eX11_later_17 nX11_621 ?_
    refine q_topI (v := Int32.ofInt 100000) rfl ?_
    refine q_cz_le (tgt := 25) (a := (s.1 139 93 + p)) (b := 100000) eX11_later_20 (by decide) (ofz r2) (ofz (r32l rfl)) (fun c20 => ?_) (fun c20 => ?_)
    · have h := h.1 c20
      refine q_aload_n eX11_later_25 rfl ?_
      refine q_dup eX11_later_26 rfl ?_
      refine q_getf (c := 11) (n := 0) (k := 93) (v := .int (Int32.ofInt (s.1 139 93))) eX11_later_27 rfl (by decide) (by decide) fX11_618 rfl ?_
      refine q_iload_n eX11_later_30 rfl ?_
      refine z_iadd eX11_later_31 ?_
      refine z_putI (c := 11) (n := 0) (k := 93) (kz := 93) eX11_later_32 rfl (by decide) (by decide) fX11_618 rfl rfl rfl ?_
      refine q_aload_n eX11_later_35 rfl ?_
      refine q_getf (c := 11) (n := 0) (k := 93) (v := .int (Int32.ofInt (s.1 139 93 + p))) eX11_later_36 rfl (by decide) (by decide) fX11_618 rfl ?_
      exact q_iret eX11_later_39 rfl ⟨_, _, rfl, (ra_ui hA r2), r2, rfl, h⟩
    · have h := h.2 c20
      refine q_ic (v := Int32.ofInt (-1)) eX11_later_23 rfl ?_
      exact q_iret eX11_later_24 rfl ⟨_, _, rfl, hA, (r32l rfl), rfl, h⟩
theorem eX11_layLeft_0 : decode cX11_layLeft 0 = .ok (.aload_n 0, 1) := by decide +kernel
theorem eX11_layLeft_1 : decode cX11_layLeft 1 = .ok (.invokevirtual 485, 3) := by decide +kernel
theorem eX11_layLeft_4 : decode cX11_layLeft 4 = .ok (.ifCond .ne 5, 3) := by decide +kernel
theorem eX11_layLeft_7 : decode cX11_layLeft 7 = .ok (.iconst 0, 1) := by decide +kernel
theorem eX11_layLeft_8 : decode cX11_layLeft 8 = .ok (.ireturn, 1) := by decide +kernel
theorem eX11_layLeft_9 : decode cX11_layLeft 9 = .ok (.iconst 0, 1) := by decide +kernel
theorem eX11_layLeft_10 : decode cX11_layLeft 10 = .ok (.istore_n 2, 1) := by decide +kernel
theorem eX11_layLeft_11 : decode cX11_layLeft 11 = .ok (.iconst 0, 1) := by decide +kernel
theorem eX11_layLeft_12 : decode cX11_layLeft 12 = .ok (.istore_n 3, 1) := by decide +kernel
theorem eX11_layLeft_13 : decode cX11_layLeft 13 = .ok (.iload_n 3, 1) := by decide +kernel
theorem eX11_layLeft_14 : decode cX11_layLeft 14 = .ok (.aload_n 0, 1) := by decide +kernel
theorem eX11_layLeft_15 : decode cX11_layLeft 15 = .ok (.getfield 560, 3) := by decide +kernel
theorem eX11_layLeft_18 : decode cX11_layLeft 18 = .ok (.if_icmp .ge 49, 3) := by decide +kernel
theorem eX11_layLeft_21 : decode cX11_layLeft 21 = .ok (.aload_n 0, 1) := by decide +kernel
theorem eX11_layLeft_22 : decode cX11_layLeft 22 = .ok (.getfield 200, 3) := by decide +kernel
theorem eX11_layLeft_25 : decode cX11_layLeft 25 = .ok (.iload_n 3, 1) := by decide +kernel
theorem eX11_layLeft_26 : decode cX11_layLeft 26 = .ok (.iaload, 1) := by decide +kernel
theorem eX11_layLeft_27 : decode cX11_layLeft 27 = .ok (.iload_n 1, 1) := by decide +kernel
theorem eX11_layLeft_28 : decode cX11_layLeft 28 = .ok (.if_icmp .gt 33, 3) := by decide +kernel
theorem eX11_layLeft_31 : decode cX11_layLeft 31 = .ok (.aload_n 0, 1) := by decide +kernel
theorem eX11_layLeft_32 : decode cX11_layLeft 32 = .ok (.getfield 203, 3) := by decide +kernel
theorem eX11_layLeft_35 : decode cX11_layLeft 35 = .ok (.iload_n 3, 1) := by decide +kernel
theorem eX11_layLeft_36 : decode cX11_layLeft 36 = .ok (.iaload, 1) := by decide +kernel
theorem eX11_layLeft_37 : decode cX11_layLeft 37 = .ok (.ifCond .lt 13, 3) := by decide +kernel
theorem eX11_layLeft_40 : decode cX11_layLeft 40 = .ok (.aload_n 0, 1) := by decide +kernel
theorem eX11_layLeft_41 : decode cX11_layLeft 41 = .ok (.getfield 203, 3) := by decide +kernel
theorem eX11_layLeft_44 : decode cX11_layLeft 44 = .ok (.iload_n 3, 1) := by decide +kernel
theorem eX11_layLeft_45 : decode cX11_layLeft 45 = .ok (.iaload, 1) := by decide +kernel
theorem eX11_layLeft_46 : decode cX11_layLeft 46 = .ok (.iload_n 1, 1) := by decide +kernel
theorem eX11_layLeft_47 : decode cX11_layLeft 47 = .ok (.if_icmp .le 14, 3) := by decide +kernel
theorem eX11_layLeft_50 : decode cX11_layLeft 50 = .ok (.iload_n 2, 1) := by decide +kernel
theorem eX11_layLeft_51 : decode cX11_layLeft 51 = .ok (.iconst 1, 1) := by decide +kernel
theorem eX11_layLeft_52 : decode cX11_layLeft 52 = .ok (.aload_n 0, 1) := by decide +kernel
theorem eX11_layLeft_53 : decode cX11_layLeft 53 = .ok (.getfield 197, 3) := by decide +kernel
theorem eX11_layLeft_56 : decode cX11_layLeft 56 = .ok (.iload_n 3, 1) := by decide +kernel
theorem eX11_layLeft_57 : decode cX11_layLeft 57 = .ok (.iaload, 1) := by decide +kernel
theorem eX11_layLeft_58 : decode cX11_layLeft 58 = .ok (.ishl, 1) := by decide +kernel
theorem eX11_layLeft_59 : decode cX11_layLeft 59 = .ok (.ior, 1) := by decide +kernel
theorem eX11_layLeft_60 : decode cX11_layLeft 60 = .ok (.istore_n 2, 1) := by decide +kernel
theorem eX11_layLeft_61 : decode cX11_layLeft 61 = .ok (.iinc 3 1, 3) := by decide +kernel
theorem eX11_layLeft_64 : decode cX11_layLeft 64 = .ok (.goto (-51), 3) := by decide +kernel
theorem eX11_layLeft_67 : decode cX11_layLeft 67 = .ok (.aload_n 0, 1) := by decide +kernel
theorem eX11_layLeft_68 : decode cX11_layLeft 68 = .ok (.iconst 0, 1) := by decide +kernel
theorem eX11_layLeft_69 : decode cX11_layLeft 69 = .ok (.putfield 622, 3) := by decide +kernel
theorem eX11_layLeft_72 : decode cX11_layLeft 72 = .ok (.aload_n 0, 1) := by decide +kernel
theorem eX11_layLeft_73 : decode cX11_layLeft 73 = .ok (.iconst 1, 1) := by decide +kernel
theorem eX11_layLeft_74 : decode cX11_layLeft 74 = .ok (.aload_n 0, 1) := by decide +kernel
theorem eX11_layLeft_75 : decode cX11_layLeft 75 = .ok (.getfield 20, 3) := by decide +kernel
theorem eX11_layLeft_78 : decode cX11_layLeft 78 = .ok (.aload_n 0, 1) := by decide +kernel
theorem eX11_layLeft_79 : decode cX11_layLeft 79 = .ok (.getfield 321, 3) := by decide +kernel
theorem eX11_layLeft_82 : decode cX11_layLeft 82 = .ok (.iaload, 1) := by decide +kernel
theorem eX11_layLeft_83 : decode cX11_layLeft 83 = .ok (.ishl, 1) := by decide +kernel
theorem eX11_layLeft_84 : decode cX11_layLeft 84 = .ok (.iconst 1, 1) := by decide +kernel
theorem eX11_layLeft_85 : decode cX11_layLeft 85 = .ok (.isub, 1) := by decide +kernel
theorem eX11_layLeft_86 : decode cX11_layLeft 86 = .ok (.putfield 625, 3) := by decide +kernel
theorem eX11_layLeft_89 : decode cX11_layLeft 89 = .ok (.iconst 0, 1) := by decide +kernel
theorem eX11_layLeft_90 : decode cX11_layLeft 90 = .ok (.istore_n 3, 1) := by decide +kernel
theorem eX11_layLeft_91 : decode cX11_layLeft 91 = .ok (.iload_n 3, 1) := by decide +kernel
theorem eX11_layLeft_92 : decode cX11_layLeft 92 = .ok (.iconst 1, 1) := by decide +kernel
theorem eX11_layLeft_93 : decode cX11_layLeft 93 = .ok (.aload_n 0, 1) := by decide +kernel
theorem eX11_layLeft_94 : decode cX11_layLeft 94 = .ok (.getfield 20, 3) := by decide +kernel
theorem eX11_layLeft_97 : decode cX11_layLeft 97 = .ok (.aload_n 0, 1) := by decide +kernel
theorem eX11_layLeft_98 : decode cX11_layLeft 98 = .ok (.getfield 321, 3) := by decide +kernel
theorem eX11_layLeft_101 : decode cX11_layLeft 101 = .ok (.iaload, 1) := by decide +kernel
theorem eX11_layLeft_102 : decode cX11_layLeft 102 = .ok (.ishl, 1) := by decide +kernel
theorem eX11_layLeft_103 : decode cX11_layLeft 103 = .ok (.if_icmp .ge 46, 3) := by decide +kernel
theorem eX11_layLeft_106 : decode cX11_layLeft 106 = .ok (.iload_n 3, 1) := by decide +kernel
theorem eX11_layLeft_107 : decode cX11_layLeft 107 = .ok (.iload_n 2, 1) := by decide +kernel
theorem eX11_layLeft_108 : decode cX11_layLeft 108 = .ok (.iand, 1) := by decide +kernel
theorem eX11_layLeft_109 : decode cX11_layLeft 109 = .ok (.ifCond .ne 34, 3) := by decide +kernel
theorem eX11_layLeft_112 : decode cX11_layLeft 112 = .ok (.aload_n 0, 1) := by decide +kernel
theorem eX11_layLeft_113 : decode cX11_layLeft 113 = .ok (.iload_n 3, 1) := by decide +kernel
theorem eX11_layLeft_114 : decode cX11_layLeft 114 = .ok (.invokevirtual 479, 3) := by decide +kernel
theorem eX11_layLeft_117 : decode cX11_layLeft 117 = .ok (.ifCond .ne 6, 3) := by decide +kernel
theorem eX11_layLeft_120 : decode cX11_layLeft 120 = .ok (.goto 23, 3) := by decide +kernel
theorem eX11_layLeft_123 : decode cX11_layLeft 123 = .ok (.aload_n 0, 1) := by decide +kernel
theorem eX11_layLeft_124 : decode cX11_layLeft 124 = .ok (.dup, 1) := by decide +kernel
theorem eX11_layLeft_125 : decode cX11_layLeft 125 = .ok (.getfield 622, 3) := by decide +kernel
theorem eX11_layLeft_128 : decode cX11_layLeft 128 = .ok (.iconst 1, 1) := by decide +kernel
theorem eX11_layLeft_129 : decode cX11_layLeft 129 = .ok (.iadd, 1) := by decide +kernel
theorem eX11_layLeft_130 : decode cX11_layLeft 130 = .ok (.putfield 622, 3) := by decide +kernel
theorem eX11_layLeft_133 : decode cX11_layLeft 133 = .ok (.aload_n 0, 1) := by decide +kernel
theorem eX11_layLeft_134 : decode cX11_layLeft 134 = .ok (.dup, 1) := by decide +kernel
theorem eX11_layLeft_135 : decode cX11_layLeft 135 = .ok (.getfield 625, 3) := by decide +kernel
theorem eX11_layLeft_138 : decode cX11_layLeft 138 = .ok (.iload_n 3, 1) := by decide +kernel
theorem eX11_layLeft_139 : decode cX11_layLeft 139 = .ok (.iand, 1) := by decide +kernel
theorem eX11_layLeft_140 : decode cX11_layLeft 140 = .ok (.putfield 625, 3) := by decide +kernel
theorem eX11_layLeft_143 : decode cX11_layLeft 143 = .ok (.iinc 3 1, 3) := by decide +kernel
theorem eX11_layLeft_146 : decode cX11_layLeft 146 = .ok (.goto (-55), 3) := by decide +kernel
theorem eX11_layLeft_149 : decode cX11_layLeft 149 = .ok (.iconst 1, 1) := by decide +kernel
theorem eX11_layLeft_150 : decode cX11_layLeft 150 = .ok (.ireturn, 1) := by decide +kernel
def C_X11_layLeft (s : ST) (p : Int) (Q : ST → Int → Prop) : Prop := bx <| RA s → R32 p → q_met mX11_layLeft (qs layM s) [.ref 139, .int (Int32.ofInt p)] (PB layM Q)
theorem C_X11_layLeft.mono {s : ST} {p : Int} {Q Q' : ST → Int → Prop} (h : C_X11_layLeft s p Q) (hq : ∀ s v, Q s v → Q' s v) : C_X11_layLeft s p Q' := ⟨fun hA hrp => q_met.mono (h.1 hA hrp) (fun _ _ => PB.mono hq), trivial⟩
def K_X11_layLeft_91 (s : ST) (a2 : Int) (a3 : Int) (Q : ST → Int → Prop) : Prop := bx <| RA s → R32 a2 → R32 a3 → q_K mX11_layLeft (qs layM s) 0 0 91 [(0, .ref 139), (2, .int (Int32.ofInt a2)), (3, .int (Int32.ofInt a3))] [] (q_fin mX11_layLeft (PB layM Q))
def K_X11_layLeft_50 (s : ST) (a1 : Int) (a2 : Int) (a3 : Int) (Q : ST → Int → Prop) : Prop := bx <| RA s → R32 a1 → R32 a2 → R32 a3 → q_K mX11_layLeft (qs layM s) 0 0 50 [(0, .ref 139), (1, .int (Int32.ofInt a1)), (2, .int (Int32.ofInt a2)), (3, .int (Int32.ofInt a3))] [] (q_fin mX11_layLeft (PB layM Q))
def K_X11_layLeft_13 (s : ST) (a1 : Int) (a2 : Int) (a3 : Int) (Q : ST → Int → Prop) : Prop := bx <| RA s → R32 a1 → R32 a2 → R32 a3 → q_K mX11_layLeft (qs layM s) 0 0 13 [(0, .ref 139), (1, .int (Int32.ofInt a1)), (2, .int (Int32.ofInt a2)), (3, .int (Int32.ofInt a3))] [] (q_fin mX11_layLeft (PB layM Q))
set_option maxRecDepth 20000 in
theorem s_X11_layLeft_91 {s : ST} {a2 : Int} {a3 : Int} {Q : ST → Int → Prop} (h : RA s → R32 a2 → R32 a3 → (((0 : Int) ≤ s.1 139 28 ∧ s.1 139 28 < 6) ∧ (((ishl 1 (s.1 142 (s.1 139 28))) ≤ a3 → Q s 1) ∧ (¬ (ishl 1 (s.1 142 (s.1 139 28))) ≤ a3 → ((¬ (iand a3 a2) = 0 → (R32 (a3 + 1) ∧ K_X11_layLeft_91 s a2 (a3 + 1) Q)) ∧ ((iand a3 a2) = 0 → (C_X11_isMend s a3 (fun s3 v3 => (v3 = 0 ∨ v3 = 1) → ((¬ v3 = 0 → (R32 (s3.1 139 94 + 1) ∧ (R32 (a3 + 1) ∧ K_X11_layLeft_91 (ui (ui s3 139 94 (s3.1 139 94 + 1)) 139 95 (iand (s3.1 139 95) a3)) a2 (a3 + 1) Q))) ∧ (v3 = 0 → (R32 (a3 + 1) ∧ K_X11_layLeft_91 s3 a2 (a3 + 1) Q))))))))))) : K_X11_layLeft_91 s a2 a3 Q := by
  refine ⟨?_, trivial⟩
  intro hA hra2 hra3
  have h := h hA hra2 hra3
  refine q_iload_n eX11_layLeft_91 rfl ?_
  refine q_ic (v := Int32.ofInt 1) eX11_layLeft_92 rfl ?_
  refine q_aload_n eX11_layLeft_93 rfl ?_
  refine q_getR (c := 11) (n := 0) (k := 11) (a := 142) eX11_layLeft_94 rfl (by decide) (by decide) fX11_20 rfl rfl ?_
  refine q_aload_n eX11_layLeft_97 rfl ?_
  refine q_getf (c := 11) (n := 0) (k := 28) (v := .int (Int32.ofInt (s.1 139 28))) eX11_layLeft_98 rfl (by decide) (by decide) fX11_321 rfl ?_
  have f1 := h.1
  have h := h.2
  refine z_iald (n := 6) eX11_layLeft_101 rfl (ofz (hA _ _)) f1 ?_
  refine q_topI (v := Int32.ofInt (s.1 142 (s.1 139 28))) rfl ?_
  refine z_ishl eX11_layLeft_102 ?_
  refine q_cz_ge (tgt := 149) (a := a3) (b := (ishl 1 (s.1 142 (s.1 139 28)))) eX11_layLeft_103 (by decide) (ofz hra3) (ofz (ishl_r _ _)) (fun c103 => ?_) (fun c103 => ?_)
  · have h := h.1 c103
    refine q_ic (v := Int32.ofInt 1) eX11_layLeft_149 rfl ?_
    exact q_zret eX11_layLeft_150 rfl (z01 (Or.inr rfl)) ⟨_, _, rfl, hA, (Or.inr rfl), rfl, h⟩
  · have h := h.2 c103
    refine q_iload_n eX11_layLeft_106 rfl ?_
    refine q_iload_n eX11_layLeft_107 rfl ?_
    refine z_iand eX11_layLeft_108 ?_
    refine q_iz_ne (tgt := 143) (a := (iand a3 a2)) eX11_layLeft_109 (by decide) (ofz (iand_r _ _)) (fun c109 => ?_) (fun c109 => ?_)
    · have h := h.1 c109
      have r2 := h.1
      have h := h.2
      refine z_inc (m := 1) eX11_layLeft_143 rfl (Nat.le_of_ble_eq_true rfl) rfl ?_
      refine q_goto (tgt := 91) eX11_layLeft_146 (by decide) ?_
      exact q_subL rfl (h.1 hA hra2 r2)
    · have h := h.2 c109
      refine q_aload_n eX11_layLeft_112 rfl ?_
      refine q_iload_n eX11_layLeft_113 rfl ?_
      refine q_V1 (ci := 11) (n := 0) eX11_layLeft_114 DX11_isMend lX11_479 rfl (by decide) rfl rfl rfl rfl (h.1 hA hra3) ?_
      rintro _ _ ⟨s3, v3, rfl, hA3, b3, rfl, h⟩
      have h := h b3
      refine q_iz_ne (tgt := 123) (a := v3) eX11_layLeft_117 (by decide) (ofz (r01 b3)) (fun c117 => ?_) (fun c117 => ?_)
      · have h := h.1 c117
        refine q_aload_n eX11_layLeft_123 rfl ?_
        refine q_dup eX11_layLeft_124 rfl ?_
        refine q_getf (c := 11) (n := 0) (k := 94) (v := .int (Int32.ofInt (s3.1 139 94))) eX11_layLeft_125 rfl (by decide) (by decide) fX11_622 rfl ?_
        refine q_ic (v := Int32.ofInt 1) eX11_layLeft_128 rfl ?_
        refine z_iadd eX11_layLeft_129 ?_
        have r4 := h.1
        have h := h.2
        refine z_putI (c := 11) (n := 0) (k := 94) (kz := 94) eX11_layLeft_130 rfl (by decide) (by decide) fX11_622 rfl rfl rfl ?_
        refine q_aload_n eX11_layLeft_133 rfl ?_
        refine q_dup eX11_layLeft_134 rfl ?_
        refine q_getf (c := 11) (n := 0) (k := 95) (v := .int (Int32.ofInt (s3.1 139 95))) eX11_layLeft_135 rfl (by decide) (by decide) fX11_625 rfl ?_
        refine q_iload_n eX11_layLeft_138 rfl ?_
        refine z_iand eX11_layLeft_139 ?_
        refine z_putI (c := 11) (n := 0) (k := 95) (kz := 95) eX11_layLeft_140 rfl (by decide) (by decide) fX11_625 rfl rfl rfl ?_
        have r5 := h.1
        have h := h.2
        refine z_inc (m := 1) eX11_layLeft_143 rfl (Nat.le_of_ble_eq_true rfl) rfl ?_
        refine q_goto (tgt := 91) eX11_layLeft_146 (by decide) ?_
        exact q_subL rfl (h.1 (ra_ui (ra_ui hA3 r4) (iand_r _ _)) hra2 r5)
      · have h := h.2 c117
        refine q_goto (tgt := 143) eX11_layLeft_120 (by decide) ?_
        have r6 := h.1
        have h := h.2
        refine z_inc (m := 1) eX11_layLeft_143 rfl (Nat.le_of_ble_eq_true rfl) rfl ?_
        refine q_goto (tgt := 91) eX11_layLeft_146 (by decide) ?_
        exact q_subL rfl (h.1 hA3 hra2 r6)
set_option maxRecDepth 20000 in
theorem s_X11_layLeft_50 {s : ST} {a1 : Int} {a2 : Int} {a3 : Int} {Q : ST → Int → Prop} (h : RA s → R32 a1 → R32 a2 → R32 a3 → (((0 : Int) ≤ a3 ∧ a3 < 30) ∧ (R32 (a3 + 1) ∧ K_X11_layLeft_13 s a1 (ior a2 (ishl 1 (s.1 199 a3))) (a3 + 1) Q))) : K_X11_layLeft_50 s a1 a2 a3 Q := by
  refine ⟨?_, trivial⟩
  intro hA hra1 hra2 hra3
  have h := h hA hra1 hra2 hra3
  refine q_iload_n eX11_layLeft_50 rfl ?_
  refine q_ic (v := Int32.ofInt 1) eX11_layLeft_51 rfl ?_
  refine q_aload_n eX11_layLeft_52 rfl ?_
  refine q_getR (c := 11) (n := 0) (k := 89) (a := 199) eX11_layLeft_53 rfl (by decide) (by decide) fX11_197 rfl rfl ?_
  refine q_iload_n eX11_layLeft_56 rfl ?_
  have f1 := h.1
  have h := h.2
  refine z_iald (n := 30) eX11_layLeft_57 rfl (ofz hra3) f1 ?_
  refine q_topI (v := Int32.ofInt (s.1 199 a3)) rfl ?_
  refine z_ishl eX11_layLeft_58 ?_
  refine z_ior eX11_layLeft_59 ?_
  refine q_istore_n eX11_layLeft_60 (Nat.le_of_ble_eq_true rfl) ?_
  have r2 := h.1
  have h := h.2
  refine z_inc (m := 1) eX11_layLeft_61 rfl (Nat.le_of_ble_eq_true rfl) rfl ?_
  refine q_goto (tgt := 13) eX11_layLeft_64 (by decide) ?_
  exact q_subL rfl (h.1 hA hra1 (ior_r _ _) r2)
set_option maxRecDepth 20000 in
theorem s_X11_layLeft_13 {s : ST} {a1 : Int} {a2 : Int} {a3 : Int} {Q : ST → Int → Prop} (h : RA s → R32 a1 → R32 a2 → R32 a3 → ((s.1 139 92 ≤ a3 → (((0 : Int) ≤ s.1 139 28 ∧ s.1 139 28 < 6) ∧ (R32 ((ishl 1 (s.1 142 (s.1 139 28))) - 1) ∧ K_X11_layLeft_91 (ui (ui s 139 94 0) 139 95 ((ishl 1 (s.1 142 (s.1 139 28))) - 1)) a2 0 Q))) ∧ (¬ s.1 139 92 ≤ a3 → (((0 : Int) ≤ a3 ∧ a3 < 30) ∧ ((a1 < s.1 200 a3 → (R32 (a3 + 1) ∧ K_X11_layLeft_13 s a1 a2 (a3 + 1) Q)) ∧ (¬ a1 < s.1 200 a3 → ((s.1 201 a3 < 0 → K_X11_layLeft_50 s a1 a2 a3 Q) ∧ (¬ s.1 201 a3 < 0 → ((s.1 201 a3 ≤ a1 → (R32 (a3 + 1) ∧ K_X11_layLeft_13 s a1 a2 (a3 + 1) Q)) ∧ (¬ s.1 201 a3 ≤ a1 → K_X11_layLeft_50 s a1 a2 a3 Q)))))))))) : K_X11_layLeft_13 s a1 a2 a3 Q := by
  refine ⟨?_, trivial⟩
  intro hA hra1 hra2 hra3
  have h := h hA hra1 hra2 hra3
  refine q_iload_n eX11_layLeft_13 rfl ?_
  refine q_aload_n eX11_layLeft_14 rfl ?_
  refine q_getf (c := 11) (n := 0) (k := 92) (v := .int (Int32.ofInt (s.1 139 92))) eX11_layLeft_15 rfl (by decide) (by decide) fX11_560 rfl ?_
  refine q_cz_ge (tgt := 67) (a := a3) (b := s.1 139 92) eX11_layLeft_18 (by decide) (ofz hra3) (ofz (hA _ _)) (fun c18 => ?_) (fun c18 => ?_)
  · have h := h.1 c18
    refine q_aload_n eX11_layLeft_67 rfl ?_
    refine q_ic (v := Int32.ofInt 0) eX11_layLeft_68 rfl ?_
    refine z_putI (c := 11) (n := 0) (k := 94) (kz := 94) eX11_layLeft_69 rfl (by decide) (by decide) fX11_622 rfl rfl rfl ?_
    refine q_aload_n eX11_layLeft_72 rfl ?_
    refine q_ic (v := Int32.ofInt 1) eX11_layLeft_73 rfl ?_
    refine q_aload_n eX11_layLeft_74 rfl ?_
    refine q_getR (c := 11) (n := 0) (k := 11) (a := 142) eX11_layLeft_75 rfl (by decide) (by decide) fX11_20 rfl rfl ?_
    refine q_aload_n eX11_layLeft_78 rfl ?_
    refine q_getf (c := 11) (n := 0) (k := 28) (v := .int (Int32.ofInt (s.1 139 28))) eX11_layLeft_79 rfl (by decide) (by decide) fX11_321 rfl ?_
    have f1 := h.1
    have h := h.2
    refine z_iald (n := 6) eX11_layLeft_82 rfl (ofz (hA _ _)) f1 ?_
    refine q_topI (v := Int32.ofInt (s.1 142 (s.1 139 28))) rfl ?_
    refine z_ishl eX11_layLeft_83 ?_
    refine q_ic (v := Int32.ofInt 1) eX11_layLeft_84 rfl ?_
    refine z_isub eX11_layLeft_85 ?_
    have r2 := h.1
    have h := h.2
    refine z_putI (c := 11) (n := 0) (k := 95) (kz := 95) eX11_layLeft_86 rfl (by decide) (by decide) fX11_625 rfl rfl rfl ?_
    refine q_ic (v := Int32.ofInt 0) eX11_layLeft_89 rfl ?_
    refine q_istore_n eX11_layLeft_90 (Nat.le_of_ble_eq_true rfl) ?_
    exact q_subL rfl (h.1 (ra_ui (ra_ui hA (r32l rfl)) r2) hra2 (r32l rfl))
  · have h := h.2 c18
    refine q_aload_n eX11_layLeft_21 rfl ?_
    refine q_getR (c := 11) (n := 0) (k := 90) (a := 200) eX11_layLeft_22 rfl (by decide) (by decide) fX11_200 rfl rfl ?_
    refine q_iload_n eX11_layLeft_25 rfl ?_
    have f3 := h.1
    have h := h.2
    refine z_iald (n := 30) eX11_layLeft_26 rfl (ofz hra3) f3 ?_
    refine q_topI (v := Int32.ofInt (s.1 200 a3)) rfl ?_
    refine q_iload_n eX11_layLeft_27 rfl ?_
    refine q_cz_gt (tgt := 61) (a := s.1 200 a3) (b := a1) eX11_layLeft_28 (by decide) (ofz (hA _ _)) (ofz hra1) (fun c28 => ?_) (fun c28 => ?_)
    · have h := h.1 c28
      have r4 := h.1
      have h := h.2
      refine z_inc (m := 1) eX11_layLeft_61 rfl (Nat.le_of_ble_eq_true rfl) rfl ?_
      refine q_goto (tgt := 13) eX11_layLeft_64 (by decide) ?_
      exact q_subL rfl (h.1 hA hra1 hra2 r4)
    · have h := h.2 c28
      refine q_aload_n eX11_layLeft_31 rfl ?_
      refine q_getR (c := 11) (n := 0) (k := 91) (a := 201) eX11_layLeft_32 rfl (by decide) (by decide) fX11_203 rfl rfl ?_
      refine q_iload_n eX11_layLeft_35 rfl ?_
      refine z_iald (n := 30) eX11_layLeft_36 rfl (ofz hra3) f3 ?_
      refine q_topI (v := Int32.ofInt (s.1 201 a3)) rfl ?_
      refine q_iz_lt (tgt := 50) (a := s.1 201 a3) eX11_layLeft_37 (by decide) (ofz (hA _ _)) (fun c37 => ?_) (fun c37 => ?_)
      · have h := h.1 c37
        exact q_subL rfl (h.1 hA hra1 hra2 hra3)
      · have h := h.2 c37
        refine q_aload_n eX11_layLeft_40 rfl ?_
        refine q_getR (c := 11) (n := 0) (k := 91) (a := 201) eX11_layLeft_41 rfl (by decide) (by decide) fX11_203 rfl rfl ?_
        refine q_iload_n eX11_layLeft_44 rfl ?_
        refine z_iald (n := 30) eX11_layLeft_45 rfl (ofz hra3) f3 ?_
        refine q_topI (v := Int32.ofInt (s.1 201 a3)) rfl ?_
        refine q_iload_n eX11_layLeft_46 rfl ?_
        refine q_cz_le (tgt := 61) (a := s.1 201 a3) (b := a1) eX11_layLeft_47 (by decide) (ofz (hA _ _)) (ofz hra1) (fun c47 => ?_) (fun c47 => ?_)
        · have h := h.1 c47
          have r5 := h.1
          have h := h.2
          refine z_inc (m := 1) eX11_layLeft_61 rfl (Nat.le_of_ble_eq_true rfl) rfl ?_
          refine q_goto (tgt := 13) eX11_layLeft_64 (by decide) ?_
          exact q_subL rfl (h.1 hA hra1 hra2 r5)
        · have h := h.2 c47
          exact q_subL rfl (h.1 hA hra1 hra2 hra3)
set_option maxRecDepth 20000 in
theorem s_X11_layLeft {s : ST} {p : Int} {Q : ST → Int → Prop} (h : RA s → R32 p → (C_X11_layClashes s (fun s1 v1 => (v1 = 0 ∨ v1 = 1) → ((¬ v1 = 0 → K_X11_layLeft_13 s1 p 0 0 Q) ∧ (v1 = 0 → Q s1 0))))) : C_X11_layLeft s p Q := by
  refine ⟨?_, trivial⟩
  intro hA hrp
  have h := h hA hrp
  refine q_enter (by decide) (Nat.le_of_ble_eq_true rfl) ?_
  refine q_aload_n eX11_layLeft_0 rfl ?_
  refine q_V0 (ci := 11) (n := 0) eX11_layLeft_1 DX11_layClashes lX11_485 rfl (by decide) rfl rfl rfl rfl (h.1 hA) ?_
  rintro _ _ ⟨s1, v1, rfl, hA1, b1, rfl, h⟩
  have h := h b1
  refine q_iz_ne (tgt := 9) (a := v1) eX11_layLeft_4 (by decide) (ofz (r01 b1)) (fun c4 => ?_) (fun c4 => ?_)
  · have h := h.1 c4
    refine q_ic (v := Int32.ofInt 0) eX11_layLeft_9 rfl ?_
    refine q_istore_n eX11_layLeft_10 (Nat.le_of_ble_eq_true rfl) ?_
    refine q_ic (v := Int32.ofInt 0) eX11_layLeft_11 rfl ?_
    refine q_istore_n eX11_layLeft_12 (Nat.le_of_ble_eq_true rfl) ?_
    exact q_subL rfl (h.1 hA1 hrp (r32l rfl) (r32l rfl))
  · have h := h.2 c4
    refine q_ic (v := Int32.ofInt 0) eX11_layLeft_7 rfl ?_
    exact q_zret eX11_layLeft_8 rfl (z01 (Or.inl rfl)) ⟨_, _, rfl, hA1, (Or.inl rfl), rfl, h⟩
theorem eX11_left_0 : decode cX11_left 0 = .ok (.aload_n 0, 1) := by decide +kernel
theorem eX11_left_1 : decode cX11_left 1 = .ok (.iload_n 1, 1) := by decide +kernel
theorem eX11_left_2 : decode cX11_left 2 = .ok (.invokevirtual 628, 3) := by decide +kernel
theorem eX11_left_5 : decode cX11_left 5 = .ok (.ifCond .eq 10, 3) := by decide +kernel
theorem eX11_left_8 : decode cX11_left 8 = .ok (.aload_n 0, 1) := by decide +kernel
theorem eX11_left_9 : decode cX11_left 9 = .ok (.getfield 622, 3) := by decide +kernel
theorem eX11_left_12 : decode cX11_left 12 = .ok (.goto 5, 3) := by decide +kernel
theorem eX11_left_15 : decode cX11_left 15 = .ok (.bipush (-2), 2) := by decide +kernel
theorem eX11_left_17 : decode cX11_left 17 = .ok (.ireturn, 1) := by decide +kernel
def C_X11_left (s : ST) (p : Int) (Q : ST → Int → Prop) : Prop := bx <| RA s → R32 p → q_met mX11_left (qs layM s) [.ref 139, .int (Int32.ofInt p)] (PI layM Q)
theorem C_X11_left.mono {s : ST} {p : Int} {Q Q' : ST → Int → Prop} (h : C_X11_left s p Q) (hq : ∀ s v, Q s v → Q' s v) : C_X11_left s p Q' := ⟨fun hA hrp => q_met.mono (h.1 hA hrp) (fun _ _ => PI.mono hq), trivial⟩
set_option maxRecDepth 20000 in
theorem s_X11_left {s : ST} {p : Int} {Q : ST → Int → Prop} (h : RA s → R32 p → (C_X11_layLeft s p (fun s1 v1 => (v1 = 0 ∨ v1 = 1) → ((v1 = 0 → Q s1 (-2)) ∧ (¬ v1 = 0 → Q s1 (s1.1 139 94)))))) : C_X11_left s p Q := by
  refine ⟨?_, trivial⟩
  intro hA hrp
  have h := h hA hrp
  refine q_enter (by decide) (Nat.le_of_ble_eq_true rfl) ?_
  refine q_aload_n eX11_left_0 rfl ?_
  refine q_iload_n eX11_left_1 rfl ?_
  refine q_V1 (ci := 11) (n := 0) eX11_left_2 DX11_layLeft lX11_628 rfl (by decide) rfl rfl rfl rfl (h.1 hA hrp) ?_
  rintro _ _ ⟨s1, v1, rfl, hA1, b1, rfl, h⟩
  have h := h b1
  refine q_iz_eq (tgt := 15) (a := v1) eX11_left_5 (by decide) (ofz (r01 b1)) (fun c5 => ?_) (fun c5 => ?_)
  · have h := h.1 c5
    refine q_bi (v := Int32.ofInt (-2)) eX11_left_15 rfl ?_
    exact q_iret eX11_left_17 rfl ⟨_, _, rfl, hA1, (r32l rfl), rfl, h⟩
  · have h := h.2 c5
    refine q_aload_n eX11_left_8 rfl ?_
    refine q_getf (c := 11) (n := 0) (k := 94) (v := .int (Int32.ofInt (s1.1 139 94))) eX11_left_9 rfl (by decide) (by decide) fX11_622 rfl ?_
    refine q_goto (tgt := 17) eX11_left_12 (by decide) ?_
    exact q_iret eX11_left_17 rfl ⟨_, _, rfl, hA1, (hA1 _ _), rfl, h⟩
theorem eX11_sure_0 : decode cX11_sure 0 = .ok (.aload_n 0, 1) := by decide +kernel
theorem eX11_sure_1 : decode cX11_sure 1 = .ok (.iload_n 1, 1) := by decide +kernel
theorem eX11_sure_2 : decode cX11_sure 2 = .ok (.invokevirtual 628, 3) := by decide +kernel
theorem eX11_sure_5 : decode cX11_sure 5 = .ok (.ifCond .ne 9, 3) := by decide +kernel
theorem eX11_sure_8 : decode cX11_sure 8 = .ok (.ldc2_w 511, 3) := by decide +kernel
theorem eX11_sure_11 : decode cX11_sure 11 = .ok (.goto 19, 3) := by decide +kernel
theorem eX11_sure_14 : decode cX11_sure 14 = .ok (.aload_n 0, 1) := by decide +kernel
theorem eX11_sure_15 : decode cX11_sure 15 = .ok (.getfield 622, 3) := by decide +kernel
theorem eX11_sure_18 : decode cX11_sure 18 = .ok (.ifCond .ne 7, 3) := by decide +kernel
theorem eX11_sure_21 : decode cX11_sure 21 = .ok (.lconst 0, 1) := by decide +kernel
theorem eX11_sure_22 : decode cX11_sure 22 = .ok (.goto 8, 3) := by decide +kernel
theorem eX11_sure_25 : decode cX11_sure 25 = .ok (.aload_n 0, 1) := by decide +kernel
theorem eX11_sure_26 : decode cX11_sure 26 = .ok (.getfield 625, 3) := by decide +kernel
theorem eX11_sure_29 : decode cX11_sure 29 = .ok (.i2l, 1) := by decide +kernel
theorem eX11_sure_30 : decode cX11_sure 30 = .ok (.lreturn, 1) := by decide +kernel
def C_X11_sure (s : ST) (p : Int) (Q : ST → Int64 → Prop) : Prop := bx <| RA s → R32 p → q_met mX11_sure (qs layM s) [.ref 139, .int (Int32.ofInt p)] (PL layM Q)
theorem C_X11_sure.mono {s : ST} {p : Int} {Q Q' : ST → Int64 → Prop} (h : C_X11_sure s p Q) (hq : ∀ s v, Q s v → Q' s v) : C_X11_sure s p Q' := ⟨fun hA hrp => q_met.mono (h.1 hA hrp) (fun _ _ => PL.mono hq), trivial⟩
set_option maxRecDepth 20000 in
theorem s_X11_sure {s : ST} {p : Int} {Q : ST → Int64 → Prop} (h : RA s → R32 p → (C_X11_layLeft s p (fun s1 v1 => (v1 = 0 ∨ v1 = 1) → ((¬ v1 = 0 → ((¬ s1.1 139 94 = 0 → Q s1 (Int64.ofInt (s1.1 139 95))) ∧ (s1.1 139 94 = 0 → Q s1 0))) ∧ (v1 = 0 → Q s1 (-2)))))) : C_X11_sure s p Q := by
  refine ⟨?_, trivial⟩
  intro hA hrp
  have h := h hA hrp
  refine q_enter (by decide) (Nat.le_of_ble_eq_true rfl) ?_
  refine q_aload_n eX11_sure_0 rfl ?_
  refine q_iload_n eX11_sure_1 rfl ?_
  refine q_V1 (ci := 11) (n := 0) eX11_sure_2 DX11_layLeft lX11_628 rfl (by decide) rfl rfl rfl rfl (h.1 hA hrp) ?_
  rintro _ _ ⟨s1, v1, rfl, hA1, b1, rfl, h⟩
  have h := h b1
  refine q_iz_ne (tgt := 14) (a := v1) eX11_sure_5 (by decide) (ofz (r01 b1)) (fun c5 => ?_) (fun c5 => ?_)
  · have h := h.1 c5
    refine q_aload_n eX11_sure_14 rfl ?_
    refine q_getf (c := 11) (n := 0) (k := 94) (v := .int (Int32.ofInt (s1.1 139 94))) eX11_sure_15 rfl (by decide) (by decide) fX11_622 rfl ?_
    refine q_iz_ne (tgt := 25) (a := s1.1 139 94) eX11_sure_18 (by decide) (ofz (hA1 _ _)) (fun c18 => ?_) (fun c18 => ?_)
    · have h := h.1 c18
      refine q_aload_n eX11_sure_25 rfl ?_
      refine q_getf (c := 11) (n := 0) (k := 95) (v := .int (Int32.ofInt (s1.1 139 95))) eX11_sure_26 rfl (by decide) (by decide) fX11_625 rfl ?_
      refine z_i2l eX11_sure_29 (hA1 _ _) ?_
      exact q_lret eX11_sure_30 rfl ⟨_, _, rfl, hA1, rfl, h⟩
    · have h := h.2 c18
      refine q_lc (v := 0) eX11_sure_21 rfl ?_
      refine q_goto (tgt := 30) eX11_sure_22 (by decide) ?_
      exact q_lret eX11_sure_30 rfl ⟨_, _, rfl, hA1, rfl, h⟩
  · have h := h.2 c5
    refine q_ldc2 (v := (-2)) eX11_sure_8 nX11_511 ?_
    refine q_goto (tgt := 30) eX11_sure_11 (by decide) ?_
    exact q_lret eX11_sure_30 rfl ⟨_, _, rfl, hA1, rfl, h⟩
theorem eX11_image_0 : decode cX11_image 0 = .ok (.iload_n 1, 1) := by decide +kernel
theorem eX11_image_1 : decode cX11_image 1 = .ok (.iconst 0, 1) := by decide +kernel
theorem eX11_image_2 : decode cX11_image 2 = .ok (.iconst 2, 1) := by decide +kernel
theorem eX11_image_3 : decode cX11_image 3 = .ok (.invokestatic 379, 3) := by decide +kernel
theorem eX11_image_6 : decode cX11_image 6 = .ok (.ifCond .ne 5, 3) := by decide +kernel
theorem eX11_image_9 : decode cX11_image 9 = .ok (.iconst (-1), 1) := by decide +kernel
theorem eX11_image_10 : decode cX11_image 10 = .ok (.ireturn, 1) := by decide +kernel
theorem eX11_image_11 : decode cX11_image 11 = .ok (.aload_n 0, 1) := by decide +kernel
theorem eX11_image_12 : decode cX11_image 12 = .ok (.aload_n 0, 1) := by decide +kernel
theorem eX11_image_13 : decode cX11_image 13 = .ok (.getfield 321, 3) := by decide +kernel
theorem eX11_image_16 : decode cX11_image 16 = .ok (.iconst 3, 1) := by decide +kernel
theorem eX11_image_17 : decode cX11_image 17 = .ok (.iload_n 1, 1) := by decide +kernel
theorem eX11_image_18 : decode cX11_image 18 = .ok (.iadd, 1) := by decide +kernel
theorem eX11_image_19 : decode cX11_image 19 = .ok (.invokevirtual 566, 3) := by decide +kernel
theorem eX11_image_22 : decode cX11_image 22 = .ok (.iconst 0, 1) := by decide +kernel
theorem eX11_image_23 : decode cX11_image 23 = .ok (.istore_n 2, 1) := by decide +kernel
theorem eX11_image_24 : decode cX11_image 24 = .ok (.iload_n 2, 1) := by decide +kernel
theorem eX11_image_25 : decode cX11_image 25 = .ok (.bipush 40, 2) := by decide +kernel
theorem eX11_image_27 : decode cX11_image 27 = .ok (.if_icmp .ge 26, 3) := by decide +kernel
theorem eX11_image_30 : decode cX11_image 30 = .ok (.aload_n 0, 1) := by decide +kernel
theorem eX11_image_31 : decode cX11_image 31 = .ok (.getfield 206, 3) := by decide +kernel
theorem eX11_image_34 : decode cX11_image 34 = .ok (.bipush 40, 2) := by decide +kernel
theorem eX11_image_36 : decode cX11_image 36 = .ok (.iload_n 1, 1) := by decide +kernel
theorem eX11_image_37 : decode cX11_image 37 = .ok (.imul, 1) := by decide +kernel
theorem eX11_image_38 : decode cX11_image 38 = .ok (.iload_n 2, 1) := by decide +kernel
theorem eX11_image_39 : decode cX11_image 39 = .ok (.iadd, 1) := by decide +kernel
theorem eX11_image_40 : decode cX11_image 40 = .ok (.aload_n 0, 1) := by decide +kernel
theorem eX11_image_41 : decode cX11_image 41 = .ok (.getfield 128, 3) := by decide +kernel
theorem eX11_image_44 : decode cX11_image 44 = .ok (.iload_n 2, 1) := by decide +kernel
theorem eX11_image_45 : decode cX11_image 45 = .ok (.iaload, 1) := by decide +kernel
theorem eX11_image_46 : decode cX11_image 46 = .ok (.iastore, 1) := by decide +kernel
theorem eX11_image_47 : decode cX11_image 47 = .ok (.iinc 2 1, 3) := by decide +kernel
theorem eX11_image_50 : decode cX11_image 50 = .ok (.goto (-26), 3) := by decide +kernel
theorem eX11_image_53 : decode cX11_image 53 = .ok (.aload_n 0, 1) := by decide +kernel
theorem eX11_image_54 : decode cX11_image 54 = .ok (.getfield 209, 3) := by decide +kernel
theorem eX11_image_57 : decode cX11_image 57 = .ok (.iload_n 1, 1) := by decide +kernel
theorem eX11_image_58 : decode cX11_image 58 = .ok (.iconst 1, 1) := by decide +kernel
theorem eX11_image_59 : decode cX11_image 59 = .ok (.bastore, 1) := by decide +kernel
theorem eX11_image_60 : decode cX11_image 60 = .ok (.aload_n 0, 1) := by decide +kernel
theorem eX11_image_61 : decode cX11_image 61 = .ok (.getfield 20, 3) := by decide +kernel
theorem eX11_image_64 : decode cX11_image 64 = .ok (.aload_n 0, 1) := by decide +kernel
theorem eX11_image_65 : decode cX11_image 65 = .ok (.getfield 321, 3) := by decide +kernel
theorem eX11_image_68 : decode cX11_image 68 = .ok (.iaload, 1) := by decide +kernel
theorem eX11_image_69 : decode cX11_image 69 = .ok (.ireturn, 1) := by decide +kernel
def C_X11_image (s : ST) (p : Int) (Q : ST → Int → Prop) : Prop := bx <| RA s → R32 p → q_met mX11_image (qs layM s) [.ref 139, .int (Int32.ofInt p)] (PI layM Q)
theorem C_X11_image.mono {s : ST} {p : Int} {Q Q' : ST → Int → Prop} (h : C_X11_image s p Q) (hq : ∀ s v, Q s v → Q' s v) : C_X11_image s p Q' := ⟨fun hA hrp => q_met.mono (h.1 hA hrp) (fun _ _ => PI.mono hq), trivial⟩
def K_X11_image_24 (s : ST) (a1 : Int) (a2 : Int) (Q : ST → Int → Prop) : Prop := bx <| RA s → R32 a1 → R32 a2 → q_K mX11_image (qs layM s) 0 0 24 [(0, .ref 139), (1, .int (Int32.ofInt a1)), (2, .int (Int32.ofInt a2))] [] (q_fin mX11_image (PI layM Q))
set_option maxRecDepth 20000 in
theorem s_X11_image_24 {s : ST} {a1 : Int} {a2 : Int} {Q : ST → Int → Prop} (h : RA s → R32 a1 → R32 a2 → ((40 ≤ a2 → (((0 : Int) ≤ a1 ∧ a1 < 3) ∧ (((0 : Int) ≤ s.1 139 28 ∧ s.1 139 28 < 6) ∧ Q (ui s 203 a1 1) (s.1 142 (s.1 139 28))))) ∧ (¬ 40 ≤ a2 → (R32 (40 * a1) ∧ (R32 ((40 * a1) + a2) ∧ (((0 : Int) ≤ a2 ∧ a2 < 40) ∧ (((0 : Int) ≤ ((40 * a1) + a2) ∧ ((40 * a1) + a2) < 120) ∧ (R32 (a2 + 1) ∧ K_X11_image_24 (ui s 202 ((40 * a1) + a2) (s.1 176 a2)) a1 (a2 + 1) Q)))))))) : K_X11_image_24 s a1 a2 Q := by
  refine ⟨?_, trivial⟩
  intro hA hra1 hra2
  have h := h hA hra1 hra2
  refine q_iload_n eX11_image_24 rfl ?_
  refine q_bi (v := Int32.ofInt 40) eX11_image_25 rfl ?_
  refine q_cz_ge (tgt := 53) (a := a2) (b := 40) eX11_image_27 (by decide) (ofz hra2) (ofz (r32l rfl)) (fun c27 => ?_) (fun c27 => ?_)
  · have h := h.1 c27
    refine q_aload_n eX11_image_53 rfl ?_
    refine q_getR (c := 11) (n := 0) (k := 97) (a := 203) eX11_image_54 rfl (by decide) (by decide) fX11_209 rfl rfl ?_
    refine q_iload_n eX11_image_57 rfl ?_
    refine q_ic (v := Int32.ofInt 1) eX11_image_58 rfl ?_
    have f1 := h.1
    have h := h.2
    refine z_zast (n := 3) eX11_image_59 rfl (ofz hra1) f1 (z01 (Or.inr rfl)) ?_
    refine q_aload_n eX11_image_60 rfl ?_
    refine q_getR (c := 11) (n := 0) (k := 11) (a := 142) eX11_image_61 rfl (by decide) (by decide) fX11_20 rfl rfl ?_
    refine q_aload_n eX11_image_64 rfl ?_
    refine q_getf (c := 11) (n := 0) (k := 28) (v := .int (Int32.ofInt (s.1 139 28))) eX11_image_65 rfl (by decide) (by decide) fX11_321 rfl ?_
    have f2 := h.1
    have h := h.2
    refine z_iald (n := 6) eX11_image_68 rfl (ofz (hA _ _)) f2 ?_
    refine q_topI (v := Int32.ofInt (s.1 142 (s.1 139 28))) rfl ?_
    exact q_iret eX11_image_69 rfl ⟨_, _, rfl, (ra_ui hA (r32l rfl)), (hA _ _), rfl, h⟩
  · have h := h.2 c27
    refine q_aload_n eX11_image_30 rfl ?_
    refine q_getR (c := 11) (n := 0) (k := 96) (a := 202) eX11_image_31 rfl (by decide) (by decide) fX11_206 rfl rfl ?_
    refine q_bi (v := Int32.ofInt 40) eX11_image_34 rfl ?_
    refine q_iload_n eX11_image_36 rfl ?_
    refine z_imul eX11_image_37 ?_
    have r3 := h.1
    have h := h.2
    refine q_iload_n eX11_image_38 rfl ?_
    refine z_iadd eX11_image_39 ?_
    have r4 := h.1
    have h := h.2
    refine q_aload_n eX11_image_40 rfl ?_
    refine q_getR (c := 11) (n := 0) (k := 54) (a := 176) eX11_image_41 rfl (by decide) (by decide) fX11_128 rfl rfl ?_
    refine q_iload_n eX11_image_44 rfl ?_
    have f5 := h.1
    have h := h.2
    refine z_iald (n := 40) eX11_image_45 rfl (ofz hra2) f5 ?_
    refine q_topI (v := Int32.ofInt (s.1 176 a2)) rfl ?_
    have f6 := h.1
    have h := h.2
    refine z_iast (n := 120) eX11_image_46 rfl (ofz r4) f6  ?_
    have r7 := h.1
    have h := h.2
    refine z_inc (m := 1) eX11_image_47 rfl (Nat.le_of_ble_eq_true rfl) rfl ?_
    refine q_goto (tgt := 24) eX11_image_50 (by decide) ?_
    exact q_subL rfl (h.1 (ra_ui hA (hA _ _)) hra1 r7)
set_option maxRecDepth 20000 in
theorem s_X11_image {s : ST} {p : Int} {Q : ST → Int → Prop} (h : RA s → R32 p → (((¬ p < 0 ∧ ¬ 2 < p) → (R32 (3 + p) ∧ (C_X11_copyBank s (s.1 139 28) (3 + p) (fun s3 => K_X11_image_24 s3 p 0 Q)))) ∧ (¬ (¬ p < 0 ∧ ¬ 2 < p) → Q s (-1)))) : C_X11_image s p Q := by
  refine ⟨?_, trivial⟩
  intro hA hrp
  have h := h hA hrp
  refine q_enter (by decide) (Nat.le_of_ble_eq_true rfl) ?_
  refine q_iload_n eX11_image_0 rfl ?_
  refine q_ic (v := Int32.ofInt 0) eX11_image_1 rfl ?_
  refine q_ic (v := Int32.ofInt 2) eX11_image_2 rfl ?_
  refine q_S3 eX11_image_3 DX11_isIn lX11_379 rfl rfl rfl (p_X11_isIn hA hrp (r32l rfl) (r32l rfl)) ?_
  rintro _ _ ⟨b1, rfl, rfl⟩
  refine q_iz_ne (tgt := 11) (a := (F_X11_isIn s p 0 2)) eX11_image_6 (by decide) (ofz (r01 b1)) (fun c6 => ?_) (fun c6 => ?_)
  · have h := h.1 (n_X11_isIn.mp c6)
    refine q_aload_n eX11_image_11 rfl ?_
    refine q_aload_n eX11_image_12 rfl ?_
    refine q_getf (c := 11) (n := 0) (k := 28) (v := .int (Int32.ofInt (s.1 139 28))) eX11_image_13 rfl (by decide) (by decide) fX11_321 rfl ?_
    refine q_ic (v := Int32.ofInt 3) eX11_image_16 rfl ?_
    refine q_iload_n eX11_image_17 rfl ?_
    refine z_iadd eX11_image_18 ?_
    have r2 := h.1
    have h := h.2
    refine q_V2 (ci := 11) (n := 0) eX11_image_19 DX11_copyBank lX11_566 rfl (by decide) rfl rfl rfl rfl (h.1 hA (hA _ _) r2) ?_
    rintro _ _ ⟨s3, rfl, hA3, rfl, h⟩
    refine q_ic (v := Int32.ofInt 0) eX11_image_22 rfl ?_
    refine q_istore_n eX11_image_23 (Nat.le_of_ble_eq_true rfl) ?_
    exact q_subL rfl (h.1 hA3 hrp (r32l rfl))
  · have h := h.2 (fun q => n_X11_isIn.mpr q c6)
    refine q_ic (v := Int32.ofInt (-1)) eX11_image_9 rfl ?_
    exact q_iret eX11_image_10 rfl ⟨_, _, rfl, hA, (r32l rfl), rfl, h⟩
theorem eX11_back_0 : decode cX11_back 0 = .ok (.iload_n 1, 1) := by decide +kernel
theorem eX11_back_1 : decode cX11_back 1 = .ok (.iconst 0, 1) := by decide +kernel
theorem eX11_back_2 : decode cX11_back 2 = .ok (.iconst 2, 1) := by decide +kernel
theorem eX11_back_3 : decode cX11_back 3 = .ok (.invokestatic 379, 3) := by decide +kernel
theorem eX11_back_6 : decode cX11_back 6 = .ok (.ifCond .eq 12, 3) := by decide +kernel
theorem eX11_back_9 : decode cX11_back 9 = .ok (.aload_n 0, 1) := by decide +kernel
theorem eX11_back_10 : decode cX11_back 10 = .ok (.getfield 209, 3) := by decide +kernel
theorem eX11_back_13 : decode cX11_back 13 = .ok (.iload_n 1, 1) := by decide +kernel
theorem eX11_back_14 : decode cX11_back 14 = .ok (.baload, 1) := by decide +kernel
theorem eX11_back_15 : decode cX11_back 15 = .ok (.ifCond .ne 5, 3) := by decide +kernel
theorem eX11_back_18 : decode cX11_back 18 = .ok (.iconst (-1), 1) := by decide +kernel
theorem eX11_back_19 : decode cX11_back 19 = .ok (.ireturn, 1) := by decide +kernel
theorem eX11_back_20 : decode cX11_back 20 = .ok (.aload_n 0, 1) := by decide +kernel
theorem eX11_back_21 : decode cX11_back 21 = .ok (.iconst 3, 1) := by decide +kernel
theorem eX11_back_22 : decode cX11_back 22 = .ok (.iload_n 1, 1) := by decide +kernel
theorem eX11_back_23 : decode cX11_back 23 = .ok (.iadd, 1) := by decide +kernel
theorem eX11_back_24 : decode cX11_back 24 = .ok (.aload_n 0, 1) := by decide +kernel
theorem eX11_back_25 : decode cX11_back 25 = .ok (.getfield 321, 3) := by decide +kernel
theorem eX11_back_28 : decode cX11_back 28 = .ok (.invokevirtual 566, 3) := by decide +kernel
theorem eX11_back_31 : decode cX11_back 31 = .ok (.aload_n 0, 1) := by decide +kernel
theorem eX11_back_32 : decode cX11_back 32 = .ok (.invokevirtual 216, 3) := by decide +kernel
theorem eX11_back_35 : decode cX11_back 35 = .ok (.iconst 0, 1) := by decide +kernel
theorem eX11_back_36 : decode cX11_back 36 = .ok (.istore_n 2, 1) := by decide +kernel
theorem eX11_back_37 : decode cX11_back 37 = .ok (.iload_n 2, 1) := by decide +kernel
theorem eX11_back_38 : decode cX11_back 38 = .ok (.bipush 40, 2) := by decide +kernel
theorem eX11_back_40 : decode cX11_back 40 = .ok (.if_icmp .ge 26, 3) := by decide +kernel
theorem eX11_back_43 : decode cX11_back 43 = .ok (.aload_n 0, 1) := by decide +kernel
theorem eX11_back_44 : decode cX11_back 44 = .ok (.getfield 128, 3) := by decide +kernel
theorem eX11_back_47 : decode cX11_back 47 = .ok (.iload_n 2, 1) := by decide +kernel
theorem eX11_back_48 : decode cX11_back 48 = .ok (.aload_n 0, 1) := by decide +kernel
theorem eX11_back_49 : decode cX11_back 49 = .ok (.getfield 206, 3) := by decide +kernel
theorem eX11_back_52 : decode cX11_back 52 = .ok (.bipush 40, 2) := by decide +kernel
theorem eX11_back_54 : decode cX11_back 54 = .ok (.iload_n 1, 1) := by decide +kernel
theorem eX11_back_55 : decode cX11_back 55 = .ok (.imul, 1) := by decide +kernel
theorem eX11_back_56 : decode cX11_back 56 = .ok (.iload_n 2, 1) := by decide +kernel
theorem eX11_back_57 : decode cX11_back 57 = .ok (.iadd, 1) := by decide +kernel
theorem eX11_back_58 : decode cX11_back 58 = .ok (.iaload, 1) := by decide +kernel
theorem eX11_back_59 : decode cX11_back 59 = .ok (.iastore, 1) := by decide +kernel
theorem eX11_back_60 : decode cX11_back 60 = .ok (.iinc 2 1, 3) := by decide +kernel
theorem eX11_back_63 : decode cX11_back 63 = .ok (.goto (-26), 3) := by decide +kernel
theorem eX11_back_66 : decode cX11_back 66 = .ok (.aload_n 0, 1) := by decide +kernel
theorem eX11_back_67 : decode cX11_back 67 = .ok (.getfield 20, 3) := by decide +kernel
theorem eX11_back_70 : decode cX11_back 70 = .ok (.aload_n 0, 1) := by decide +kernel
theorem eX11_back_71 : decode cX11_back 71 = .ok (.getfield 321, 3) := by decide +kernel
theorem eX11_back_74 : decode cX11_back 74 = .ok (.iaload, 1) := by decide +kernel
theorem eX11_back_75 : decode cX11_back 75 = .ok (.ireturn, 1) := by decide +kernel
def C_X11_back (s : ST) (p : Int) (Q : ST → Int → Prop) : Prop := bx <| RA s → R32 p → q_met mX11_back (qs layM s) [.ref 139, .int (Int32.ofInt p)] (PI layM Q)
theorem C_X11_back.mono {s : ST} {p : Int} {Q Q' : ST → Int → Prop} (h : C_X11_back s p Q) (hq : ∀ s v, Q s v → Q' s v) : C_X11_back s p Q' := ⟨fun hA hrp => q_met.mono (h.1 hA hrp) (fun _ _ => PI.mono hq), trivial⟩
def K_X11_back_37 (s : ST) (a1 : Int) (a2 : Int) (Q : ST → Int → Prop) : Prop := bx <| RA s → R32 a1 → R32 a2 → q_K mX11_back (qs layM s) 0 0 37 [(0, .ref 139), (1, .int (Int32.ofInt a1)), (2, .int (Int32.ofInt a2))] [] (q_fin mX11_back (PI layM Q))
set_option maxRecDepth 20000 in
theorem s_X11_back_37 {s : ST} {a1 : Int} {a2 : Int} {Q : ST → Int → Prop} (h : RA s → R32 a1 → R32 a2 → ((40 ≤ a2 → (((0 : Int) ≤ s.1 139 28 ∧ s.1 139 28 < 6) ∧ Q s (s.1 142 (s.1 139 28)))) ∧ (¬ 40 ≤ a2 → (R32 (40 * a1) ∧ (R32 ((40 * a1) + a2) ∧ (((0 : Int) ≤ ((40 * a1) + a2) ∧ ((40 * a1) + a2) < 120) ∧ (((0 : Int) ≤ a2 ∧ a2 < 40) ∧ (R32 (a2 + 1) ∧ K_X11_back_37 (ui s 176 a2 (s.1 202 ((40 * a1) + a2))) a1 (a2 + 1) Q)))))))) : K_X11_back_37 s a1 a2 Q := by
  refine ⟨?_, trivial⟩
  intro hA hra1 hra2
  have h := h hA hra1 hra2
  refine q_iload_n eX11_back_37 rfl ?_
  refine q_bi (v := Int32.ofInt 40) eX11_back_38 rfl ?_
  refine q_cz_ge (tgt := 66) (a := a2) (b := 40) eX11_back_40 (by decide) (ofz hra2) (ofz (r32l rfl)) (fun c40 => ?_) (fun c40 => ?_)
  · have h := h.1 c40
    refine q_aload_n eX11_back_66 rfl ?_
    refine q_getR (c := 11) (n := 0) (k := 11) (a := 142) eX11_back_67 rfl (by decide) (by decide) fX11_20 rfl rfl ?_
    refine q_aload_n eX11_back_70 rfl ?_
    refine q_getf (c := 11) (n := 0) (k := 28) (v := .int (Int32.ofInt (s.1 139 28))) eX11_back_71 rfl (by decide) (by decide) fX11_321 rfl ?_
    have f1 := h.1
    have h := h.2
    refine z_iald (n := 6) eX11_back_74 rfl (ofz (hA _ _)) f1 ?_
    refine q_topI (v := Int32.ofInt (s.1 142 (s.1 139 28))) rfl ?_
    exact q_iret eX11_back_75 rfl ⟨_, _, rfl, hA, (hA _ _), rfl, h⟩
  · have h := h.2 c40
    refine q_aload_n eX11_back_43 rfl ?_
    refine q_getR (c := 11) (n := 0) (k := 54) (a := 176) eX11_back_44 rfl (by decide) (by decide) fX11_128 rfl rfl ?_
    refine q_iload_n eX11_back_47 rfl ?_
    refine q_aload_n eX11_back_48 rfl ?_
    refine q_getR (c := 11) (n := 0) (k := 96) (a := 202) eX11_back_49 rfl (by decide) (by decide) fX11_206 rfl rfl ?_
    refine q_bi (v := Int32.ofInt 40) eX11_back_52 rfl ?_
    refine q_iload_n eX11_back_54 rfl ?_
    refine z_imul eX11_back_55 ?_
    have r2 := h.1
    have h := h.2
    refine q_iload_n eX11_back_56 rfl ?_
    refine z_iadd eX11_back_57 ?_
    have r3 := h.1
    have h := h.2
    have f4 := h.1
    have h := h.2
    refine z_iald (n := 120) eX11_back_58 rfl (ofz r3) f4 ?_
    refine q_topI (v := Int32.ofInt (s.1 202 ((40 * a1) + a2))) rfl ?_
    have f5 := h.1
    have h := h.2
    refine z_iast (n := 40) eX11_back_59 rfl (ofz hra2) f5  ?_
    have r6 := h.1
    have h := h.2
    refine z_inc (m := 1) eX11_back_60 rfl (Nat.le_of_ble_eq_true rfl) rfl ?_
    refine q_goto (tgt := 37) eX11_back_63 (by decide) ?_
    exact q_subL rfl (h.1 (ra_ui hA (hA _ _)) hra1 r6)
set_option maxRecDepth 20000 in
theorem s_X11_back {s : ST} {p : Int} {Q : ST → Int → Prop} (h : RA s → R32 p → ((¬ (¬ p < 0 ∧ ¬ 2 < p) → Q s (-1)) ∧ ((¬ p < 0 ∧ ¬ 2 < p) → (((0 : Int) ≤ p ∧ p < 3) ∧ ((¬ s.1 203 p = 0 → (R32 (3 + p) ∧ (C_X11_copyBank s (3 + p) (s.1 139 28) (fun s4 => (C_X11_begin s4 (fun s5 => K_X11_back_37 s5 p 0 Q)))))) ∧ (s.1 203 p = 0 → Q s (-1))))))) : C_X11_back s p Q := by
  refine ⟨?_, trivial⟩
  intro hA hrp
  have h := h hA hrp
  refine q_enter (by decide) (Nat.le_of_ble_eq_true rfl) ?_
  refine q_iload_n eX11_back_0 rfl ?_
  refine q_ic (v := Int32.ofInt 0) eX11_back_1 rfl ?_
  refine q_ic (v := Int32.ofInt 2) eX11_back_2 rfl ?_
  refine q_S3 eX11_back_3 DX11_isIn lX11_379 rfl rfl rfl (p_X11_isIn hA hrp (r32l rfl) (r32l rfl)) ?_
  rintro _ _ ⟨b1, rfl, rfl⟩
  refine q_iz_eq (tgt := 18) (a := (F_X11_isIn s p 0 2)) eX11_back_6 (by decide) (ofz (r01 b1)) (fun c6 => ?_) (fun c6 => ?_)
  · have h := h.1 (fun q => n_X11_isIn.mpr q c6)
    refine q_ic (v := Int32.ofInt (-1)) eX11_back_18 rfl ?_
    exact q_iret eX11_back_19 rfl ⟨_, _, rfl, hA, (r32l rfl), rfl, h⟩
  · have h := h.2 (n_X11_isIn.mp c6)
    refine q_aload_n eX11_back_9 rfl ?_
    refine q_getR (c := 11) (n := 0) (k := 97) (a := 203) eX11_back_10 rfl (by decide) (by decide) fX11_209 rfl rfl ?_
    refine q_iload_n eX11_back_13 rfl ?_
    have f2 := h.1
    have h := h.2
    refine z_zald (n := 3) eX11_back_14 rfl (ofz hrp) f2 ?_
    refine q_topI (v := Int32.ofInt (s.1 203 p)) rfl ?_
    refine q_iz_ne (tgt := 20) (a := s.1 203 p) eX11_back_15 (by decide) (ofz (hA _ _)) (fun c15 => ?_) (fun c15 => ?_)
    · have h := h.1 c15
      refine q_aload_n eX11_back_20 rfl ?_
      refine q_ic (v := Int32.ofInt 3) eX11_back_21 rfl ?_
      refine q_iload_n eX11_back_22 rfl ?_
      refine z_iadd eX11_back_23 ?_
      have r3 := h.1
      have h := h.2
      refine q_aload_n eX11_back_24 rfl ?_
      refine q_getf (c := 11) (n := 0) (k := 28) (v := .int (Int32.ofInt (s.1 139 28))) eX11_back_25 rfl (by decide) (by decide) fX11_321 rfl ?_
      refine q_V2 (ci := 11) (n := 0) eX11_back_28 DX11_copyBank lX11_566 rfl (by decide) rfl rfl rfl rfl (h.1 hA r3 (hA _ _)) ?_
      rintro _ _ ⟨s4, rfl, hA4, rfl, h⟩
      refine q_aload_n eX11_back_31 rfl ?_
      refine q_V0 (ci := 11) (n := 0) eX11_back_32 DX11_begin lX11_216 rfl (by decide) rfl rfl rfl rfl (h.1 hA4) ?_
      rintro _ _ ⟨s5, rfl, hA5, rfl, h⟩
      refine q_ic (v := Int32.ofInt 0) eX11_back_35 rfl ?_
      refine q_istore_n eX11_back_36 (Nat.le_of_ble_eq_true rfl) ?_
      exact q_subL rfl (h.1 hA5 hrp (r32l rfl))
    · have h := h.2 c15
      refine q_ic (v := Int32.ofInt (-1)) eX11_back_18 rfl ?_
      exact q_iret eX11_back_19 rfl ⟨_, _, rfl, hA, (r32l rfl), rfl, h⟩
theorem eX11_about_0 : decode cX11_about 0 = .ok (.iload_n 1, 1) := by decide +kernel
theorem eX11_about_1 : decode cX11_about 1 = .ok (.tableswitch 92 0 6 #[43, 53, 63, 72, 77, 82, 87], 43) := by decide +kernel
theorem eX11_about_44 : decode cX11_about 44 = .ok (.aload_n 0, 1) := by decide +kernel
theorem eX11_about_45 : decode cX11_about 45 = .ok (.getfield 24, 3) := by decide +kernel
theorem eX11_about_48 : decode cX11_about 48 = .ok (.aload_n 0, 1) := by decide +kernel
theorem eX11_about_49 : decode cX11_about 49 = .ok (.getfield 321, 3) := by decide +kernel
theorem eX11_about_52 : decode cX11_about 52 = .ok (.iaload, 1) := by decide +kernel
theorem eX11_about_53 : decode cX11_about 53 = .ok (.ireturn, 1) := by decide +kernel
theorem eX11_about_54 : decode cX11_about 54 = .ok (.aload_n 0, 1) := by decide +kernel
theorem eX11_about_55 : decode cX11_about 55 = .ok (.getfield 20, 3) := by decide +kernel
theorem eX11_about_58 : decode cX11_about 58 = .ok (.aload_n 0, 1) := by decide +kernel
theorem eX11_about_59 : decode cX11_about 59 = .ok (.getfield 321, 3) := by decide +kernel
theorem eX11_about_62 : decode cX11_about 62 = .ok (.iaload, 1) := by decide +kernel
theorem eX11_about_63 : decode cX11_about 63 = .ok (.ireturn, 1) := by decide +kernel
theorem eX11_about_64 : decode cX11_about 64 = .ok (.aload_n 0, 1) := by decide +kernel
theorem eX11_about_65 : decode cX11_about 65 = .ok (.aload_n 0, 1) := by decide +kernel
theorem eX11_about_66 : decode cX11_about 66 = .ok (.getfield 321, 3) := by decide +kernel
theorem eX11_about_69 : decode cX11_about 69 = .ok (.invokevirtual 330, 3) := by decide +kernel
theorem eX11_about_72 : decode cX11_about 72 = .ok (.ireturn, 1) := by decide +kernel
theorem eX11_about_73 : decode cX11_about 73 = .ok (.aload_n 0, 1) := by decide +kernel
theorem eX11_about_74 : decode cX11_about 74 = .ok (.getfield 560, 3) := by decide +kernel
theorem eX11_about_77 : decode cX11_about 77 = .ok (.ireturn, 1) := by decide +kernel
theorem eX11_about_78 : decode cX11_about 78 = .ok (.aload_n 0, 1) := by decide +kernel
theorem eX11_about_79 : decode cX11_about 79 = .ok (.getfield 618, 3) := by decide +kernel
theorem eX11_about_82 : decode cX11_about 82 = .ok (.ireturn, 1) := by decide +kernel
theorem eX11_about_83 : decode cX11_about 83 = .ok (.aload_n 0, 1) := by decide +kernel
theorem eX11_about_84 : decode cX11_about 84 = .ok (.getfield 318, 3) := by decide +kernel
theorem eX11_about_87 : decode cX11_about 87 = .ok (.ireturn, 1) := by decide +kernel
theorem eX11_about_88 : decode cX11_about 88 = .ok (.aload_n 0, 1) := by decide +kernel
theorem eX11_about_89 : decode cX11_about 89 = .ok (.invokevirtual 505, 3) := by decide +kernel
theorem eX11_about_92 : decode cX11_about 92 = .ok (.ireturn, 1) := by decide +kernel
theorem eX11_about_93 : decode cX11_about 93 = .ok (.iconst (-1), 1) := by decide +kernel
theorem eX11_about_94 : decode cX11_about 94 = .ok (.ireturn, 1) := by decide +kernel
def C_X11_about (s : ST) (p : Int) (Q : ST → Int → Prop) : Prop := bx <| RA s → R32 p → q_met mX11_about (qs layM s) [.ref 139, .int (Int32.ofInt p)] (PI layM Q)
theorem C_X11_about.mono {s : ST} {p : Int} {Q Q' : ST → Int → Prop} (h : C_X11_about s p Q) (hq : ∀ s v, Q s v → Q' s v) : C_X11_about s p Q' := ⟨fun hA hrp => q_met.mono (h.1 hA hrp) (fun _ _ => PI.mono hq), trivial⟩
set_option maxRecDepth 20000 in
theorem s_X11_about {s : ST} {p : Int} {Q : ST → Int → Prop} (h : RA s → R32 p → ((p = 0 → (((0 : Int) ≤ s.1 139 28 ∧ s.1 139 28 < 6) ∧ Q s (s.1 143 (s.1 139 28)))) ∧ (p = 1 → (((0 : Int) ≤ s.1 139 28 ∧ s.1 139 28 < 6) ∧ Q s (s.1 142 (s.1 139 28)))) ∧ (p = 2 → (C_X11_asksOf s (s.1 139 28) (fun s3 v3 => Q s3 v3))) ∧ (p = 3 → Q s (s.1 139 92)) ∧ (p = 4 → Q s (s.1 139 93)) ∧ (p = 5 → Q s (s.1 139 2)) ∧ (p = 6 → (C_X11_wholeTrust s (fun s4 v4 => Q s4 v4))) ∧ ((p < 0 ∨ 6 < p) → Q s (-1)))) : C_X11_about s p Q := by
  refine ⟨?_, trivial⟩
  intro hA hrp
  have h := h hA hrp
  refine q_enter (by decide) (Nat.le_of_ble_eq_true rfl) ?_
  refine q_iload_n eX11_about_0 rfl ?_
  refine q_tab7 44 54 64 73 78 83 88 93 eX11_about_1 rfl rfl (by decide) (z := p) (ofz hrp) (fun c1 => ?_) (fun c1 => ?_) (fun c1 => ?_) (fun c1 => ?_) (fun c1 => ?_) (fun c1 => ?_) (fun c1 => ?_) (fun c1 => ?_)
  · have h := h.1 c1
    refine q_aload_n eX11_about_44 rfl ?_
    refine q_getR (c := 11) (n := 0) (k := 12) (a := 143) eX11_about_45 rfl (by decide) (by decide) fX11_24 rfl rfl ?_
    refine q_aload_n eX11_about_48 rfl ?_
    refine q_getf (c := 11) (n := 0) (k := 28) (v := .int (Int32.ofInt (s.1 139 28))) eX11_about_49 rfl (by decide) (by decide) fX11_321 rfl ?_
    have f1 := h.1
    have h := h.2
    refine z_iald (n := 6) eX11_about_52 rfl (ofz (hA _ _)) f1 ?_
    refine q_topI (v := Int32.ofInt (s.1 143 (s.1 139 28))) rfl ?_
    exact q_iret eX11_about_53 rfl ⟨_, _, rfl, hA, (hA _ _), rfl, h⟩
  · have h := h.2.1 c1
    refine q_aload_n eX11_about_54 rfl ?_
    refine q_getR (c := 11) (n := 0) (k := 11) (a := 142) eX11_about_55 rfl (by decide) (by decide) fX11_20 rfl rfl ?_
    refine q_aload_n eX11_about_58 rfl ?_
    refine q_getf (c := 11) (n := 0) (k := 28) (v := .int (Int32.ofInt (s.1 139 28))) eX11_about_59 rfl (by decide) (by decide) fX11_321 rfl ?_
    have f2 := h.1
    have h := h.2
    refine z_iald (n := 6) eX11_about_62 rfl (ofz (hA _ _)) f2 ?_
    refine q_topI (v := Int32.ofInt (s.1 142 (s.1 139 28))) rfl ?_
    exact q_iret eX11_about_63 rfl ⟨_, _, rfl, hA, (hA _ _), rfl, h⟩
  · have h := h.2.2.1 c1
    refine q_aload_n eX11_about_64 rfl ?_
    refine q_aload_n eX11_about_65 rfl ?_
    refine q_getf (c := 11) (n := 0) (k := 28) (v := .int (Int32.ofInt (s.1 139 28))) eX11_about_66 rfl (by decide) (by decide) fX11_321 rfl ?_
    refine q_V1 (ci := 11) (n := 0) eX11_about_69 DX11_asksOf lX11_330 rfl (by decide) rfl rfl rfl rfl (h.1 hA (hA _ _)) ?_
    rintro _ _ ⟨s3, v3, rfl, hA3, r3, rfl, h⟩
    exact q_iret eX11_about_72 rfl ⟨_, _, rfl, hA3, r3, rfl, h⟩
  · have h := h.2.2.2.1 c1
    refine q_aload_n eX11_about_73 rfl ?_
    refine q_getf (c := 11) (n := 0) (k := 92) (v := .int (Int32.ofInt (s.1 139 92))) eX11_about_74 rfl (by decide) (by decide) fX11_560 rfl ?_
    exact q_iret eX11_about_77 rfl ⟨_, _, rfl, hA, (hA _ _), rfl, h⟩
  · have h := h.2.2.2.2.1 c1
    refine q_aload_n eX11_about_78 rfl ?_
    refine q_getf (c := 11) (n := 0) (k := 93) (v := .int (Int32.ofInt (s.1 139 93))) eX11_about_79 rfl (by decide) (by decide) fX11_618 rfl ?_
    exact q_iret eX11_about_82 rfl ⟨_, _, rfl, hA, (hA _ _), rfl, h⟩
  · have h := h.2.2.2.2.2.1 c1
    refine q_aload_n eX11_about_83 rfl ?_
    refine q_getf (c := 11) (n := 0) (k := 2) (v := .int (Int32.ofInt (s.1 139 2))) eX11_about_84 rfl (by decide) (by decide) fX11_318 rfl ?_
    exact q_iret eX11_about_87 rfl ⟨_, _, rfl, hA, (hA _ _), rfl, h⟩
  · have h := h.2.2.2.2.2.2.1 c1
    refine q_aload_n eX11_about_88 rfl ?_
    refine q_V0 (ci := 11) (n := 0) eX11_about_89 DX11_wholeTrust lX11_505 rfl (by decide) rfl rfl rfl rfl (h.1 hA) ?_
    rintro _ _ ⟨s4, v4, rfl, hA4, r4, rfl, h⟩
    exact q_iret eX11_about_92 rfl ⟨_, _, rfl, hA4, r4, rfl, h⟩
  · have h := h.2.2.2.2.2.2.2 c1
    refine q_ic (v := Int32.ofInt (-1)) eX11_about_93 rfl ?_
    exact q_iret eX11_about_94 rfl ⟨_, _, rfl, hA, (r32l rfl), rfl, h⟩
theorem eX11_feed_0 : decode cX11_feed 0 = .ok (.aload_n 0, 1) := by decide +kernel
theorem eX11_feed_1 : decode cX11_feed 1 = .ok (.getfield 318, 3) := by decide +kernel
theorem eX11_feed_4 : decode cX11_feed 4 = .ok (.bipush 20, 2) := by decide +kernel
theorem eX11_feed_6 : decode cX11_feed 6 = .ok (.iadd, 1) := by decide +kernel
theorem eX11_feed_7 : decode cX11_feed 7 = .ok (.sipush 1600, 3) := by decide +kernel
theorem eX11_feed_10 : decode cX11_feed 10 = .ok (.if_icmp .le 5, 3) := by decide +kernel
theorem eX11_feed_13 : decode cX11_feed 13 = .ok (.iconst (-1), 1) := by decide +kernel
theorem eX11_feed_14 : decode cX11_feed 14 = .ok (.ireturn, 1) := by decide +kernel
theorem eX11_feed_15 : decode cX11_feed 15 = .ok (.iconst 0, 1) := by decide +kernel
theorem eX11_feed_16 : decode cX11_feed 16 = .ok (.istore 6, 2) := by decide +kernel
theorem eX11_feed_18 : decode cX11_feed 18 = .ok (.iload 6, 2) := by decide +kernel
theorem eX11_feed_20 : decode cX11_feed 20 = .ok (.bipush 20, 2) := by decide +kernel
theorem eX11_feed_22 : decode cX11_feed 22 = .ok (.if_icmp .ge 83, 3) := by decide +kernel
theorem eX11_feed_25 : decode cX11_feed 25 = .ok (.iload 6, 2) := by decide +kernel
theorem eX11_feed_27 : decode cX11_feed 27 = .ok (.iconst 4, 1) := by decide +kernel
theorem eX11_feed_28 : decode cX11_feed 28 = .ok (.if_icmp .ge 7, 3) := by decide +kernel
theorem eX11_feed_31 : decode cX11_feed 31 = .ok (.iload_n 1, 1) := by decide +kernel
theorem eX11_feed_32 : decode cX11_feed 32 = .ok (.goto 39, 3) := by decide +kernel
theorem eX11_feed_35 : decode cX11_feed 35 = .ok (.iload 6, 2) := by decide +kernel
theorem eX11_feed_37 : decode cX11_feed 37 = .ok (.bipush 8, 2) := by decide +kernel
theorem eX11_feed_39 : decode cX11_feed 39 = .ok (.if_icmp .ge 7, 3) := by decide +kernel
theorem eX11_feed_42 : decode cX11_feed 42 = .ok (.iload_n 2, 1) := by decide +kernel
theorem eX11_feed_43 : decode cX11_feed 43 = .ok (.goto 28, 3) := by decide +kernel
theorem eX11_feed_46 : decode cX11_feed 46 = .ok (.iload 6, 2) := by decide +kernel
theorem eX11_feed_48 : decode cX11_feed 48 = .ok (.bipush 12, 2) := by decide +kernel
theorem eX11_feed_50 : decode cX11_feed 50 = .ok (.if_icmp .ge 7, 3) := by decide +kernel
theorem eX11_feed_53 : decode cX11_feed 53 = .ok (.iload_n 3, 1) := by decide +kernel
theorem eX11_feed_54 : decode cX11_feed 54 = .ok (.goto 17, 3) := by decide +kernel
theorem eX11_feed_57 : decode cX11_feed 57 = .ok (.iload 6, 2) := by decide +kernel
theorem eX11_feed_59 : decode cX11_feed 59 = .ok (.bipush 16, 2) := by decide +kernel
theorem eX11_feed_61 : decode cX11_feed 61 = .ok (.if_icmp .ge 8, 3) := by decide +kernel
theorem eX11_feed_64 : decode cX11_feed 64 = .ok (.iload 4, 2) := by decide +kernel
theorem eX11_feed_66 : decode cX11_feed 66 = .ok (.goto 5, 3) := by decide +kernel
theorem eX11_feed_69 : decode cX11_feed 69 = .ok (.iload 5, 2) := by decide +kernel
theorem eX11_feed_71 : decode cX11_feed 71 = .ok (.istore 7, 2) := by decide +kernel
theorem eX11_feed_73 : decode cX11_feed 73 = .ok (.aload_n 0, 1) := by decide +kernel
theorem eX11_feed_74 : decode cX11_feed 74 = .ok (.getfield 7, 3) := by decide +kernel
theorem eX11_feed_77 : decode cX11_feed 77 = .ok (.aload_n 0, 1) := by decide +kernel
theorem eX11_feed_78 : decode cX11_feed 78 = .ok (.getfield 318, 3) := by decide +kernel
theorem eX11_feed_81 : decode cX11_feed 81 = .ok (.iload 6, 2) := by decide +kernel
theorem eX11_feed_83 : decode cX11_feed 83 = .ok (.iadd, 1) := by decide +kernel
theorem eX11_feed_84 : decode cX11_feed 84 = .ok (.iload 7, 2) := by decide +kernel
theorem eX11_feed_86 : decode cX11_feed 86 = .ok (.bipush 24, 2) := by decide +kernel
theorem eX11_feed_88 : decode cX11_feed 88 = .ok (.bipush 8, 2) := by decide +kernel
theorem eX11_feed_90 : decode cX11_feed 90 = .ok (.iload 6, 2) := by decide +kernel
theorem eX11_feed_92 : decode cX11_feed 92 = .ok (.iconst 3, 1) := by decide +kernel
theorem eX11_feed_93 : decode cX11_feed 93 = .ok (.iand, 1) := by decide +kernel
theorem eX11_feed_94 : decode cX11_feed 94 = .ok (.imul, 1) := by decide +kernel
theorem eX11_feed_95 : decode cX11_feed 95 = .ok (.isub, 1) := by decide +kernel
theorem eX11_feed_96 : decode cX11_feed 96 = .ok (.ishr, 1) := by decide +kernel
theorem eX11_feed_97 : decode cX11_feed 97 = .ok (.i2b, 1) := by decide +kernel
theorem eX11_feed_98 : decode cX11_feed 98 = .ok (.bastore, 1) := by decide +kernel
theorem eX11_feed_99 : decode cX11_feed 99 = .ok (.iinc 6 1, 3) := by decide +kernel
theorem eX11_feed_102 : decode cX11_feed 102 = .ok (.goto (-84), 3) := by decide +kernel
theorem eX11_feed_105 : decode cX11_feed 105 = .ok (.aload_n 0, 1) := by decide +kernel
theorem eX11_feed_106 : decode cX11_feed 106 = .ok (.dup, 1) := by decide +kernel
theorem eX11_feed_107 : decode cX11_feed 107 = .ok (.getfield 318, 3) := by decide +kernel
theorem eX11_feed_110 : decode cX11_feed 110 = .ok (.bipush 20, 2) := by decide +kernel
theorem eX11_feed_112 : decode cX11_feed 112 = .ok (.iadd, 1) := by decide +kernel
theorem eX11_feed_113 : decode cX11_feed 113 = .ok (.putfield 318, 3) := by decide +kernel
theorem eX11_feed_116 : decode cX11_feed 116 = .ok (.aload_n 0, 1) := by decide +kernel
theorem eX11_feed_117 : decode cX11_feed 117 = .ok (.getfield 318, 3) := by decide +kernel
theorem eX11_feed_120 : decode cX11_feed 120 = .ok (.ireturn, 1) := by decide +kernel
def C_X11_feed (s : ST) (p : Int) (q : Int) (u : Int) (w : Int) (x : Int) (Q : ST → Int → Prop) : Prop := bx <| RA s → R32 p → R32 q → R32 u → R32 w → R32 x → q_met mX11_feed (qs layM s) [.ref 139, .int (Int32.ofInt p), .int (Int32.ofInt q), .int (Int32.ofInt u), .int (Int32.ofInt w), .int (Int32.ofInt x)] (PI layM Q)
theorem C_X11_feed.mono {s : ST} {p : Int} {q : Int} {u : Int} {w : Int} {x : Int} {Q Q' : ST → Int → Prop} (h : C_X11_feed s p q u w x Q) (hq : ∀ s v, Q s v → Q' s v) : C_X11_feed s p q u w x Q' := ⟨fun hA hrp hrq hru hrw hrx => q_met.mono (h.1 hA hrp hrq hru hrw hrx) (fun _ _ => PI.mono hq), trivial⟩
def K_X11_feed_71 (s : ST) (a1 : Int) (a2 : Int) (a3 : Int) (a4 : Int) (a5 : Int) (a6 : Int) (t0 : Int) (Q : ST → Int → Prop) : Prop := bx <| RA s → R32 a1 → R32 a2 → R32 a3 → R32 a4 → R32 a5 → R32 a6 → R32 t0 → q_K mX11_feed (qs layM s) 0 0 71 [(0, .ref 139), (1, .int (Int32.ofInt a1)), (2, .int (Int32.ofInt a2)), (3, .int (Int32.ofInt a3)), (4, .int (Int32.ofInt a4)), (5, .int (Int32.ofInt a5)), (6, .int (Int32.ofInt a6))] [.int (Int32.ofInt t0)] (q_fin mX11_feed (PI layM Q))
def K_X11_feed_18 (s : ST) (a1 : Int) (a2 : Int) (a3 : Int) (a4 : Int) (a5 : Int) (a6 : Int) (Q : ST → Int → Prop) : Prop := bx <| RA s → R32 a1 → R32 a2 → R32 a3 → R32 a4 → R32 a5 → R32 a6 → q_K mX11_feed (qs layM s) 0 0 18 [(0, .ref 139), (1, .int (Int32.ofInt a1)), (2, .int (Int32.ofInt a2)), (3, .int (Int32.ofInt a3)), (4, .int (Int32.ofInt a4)), (5, .int (Int32.ofInt a5)), (6, .int (Int32.ofInt a6))] [] (q_fin mX11_feed (PI layM Q))
set_option maxRecDepth 20000 in
theorem s_X11_feed_71 {s : ST} {a1 : Int} {a2 : Int} {a3 : Int} {a4 : Int} {a5 : Int} {a6 : Int} {t0 : Int} {Q : ST → Int → Prop} (h : RA s → R32 a1 → R32 a2 → R32 a3 → R32 a4 → R32 a5 → R32 a6 → R32 t0 → (R32 (s.1 139 2 + a6) ∧ (R32 (8 * (iand a6 3)) ∧ (R32 (24 - (8 * (iand a6 3))) ∧ (((0 : Int) ≤ (s.1 139 2 + a6) ∧ (s.1 139 2 + a6) < 1620) ∧ (R32 (a6 + 1) ∧ K_X11_feed_18 (ui s 140 (s.1 139 2 + a6) (i8 (i8 (ishr t0 (24 - (8 * (iand a6 3))))))) a1 a2 a3 a4 a5 (a6 + 1) Q)))))) : K_X11_feed_71 s a1 a2 a3 a4 a5 a6 t0 Q := by
  refine ⟨?_, trivial⟩
  intro hA hra1 hra2 hra3 hra4 hra5 hra6 hrt0
  have h := h hA hra1 hra2 hra3 hra4 hra5 hra6 hrt0
  refine q_istore eX11_feed_71 (Nat.le_of_ble_eq_true rfl) ?_
  refine q_aload_n eX11_feed_73 rfl ?_
  refine q_getR (c := 11) (n := 0) (k := 0) (a := 140) eX11_feed_74 rfl (by decide) (by decide) fX11_7 rfl rfl ?_
  refine q_aload_n eX11_feed_77 rfl ?_
  refine q_getf (c := 11) (n := 0) (k := 2) (v := .int (Int32.ofInt (s.1 139 2))) eX11_feed_78 rfl (by decide) (by decide) fX11_318 rfl ?_
  refine q_iload eX11_feed_81 rfl ?_
  refine z_iadd eX11_feed_83 ?_
  have r1 := h.1
  have h := h.2
  refine q_iload eX11_feed_84 rfl ?_
  refine q_bi (v := Int32.ofInt 24) eX11_feed_86 rfl ?_
  refine q_bi (v := Int32.ofInt 8) eX11_feed_88 rfl ?_
  refine q_iload eX11_feed_90 rfl ?_
  refine q_ic (v := Int32.ofInt 3) eX11_feed_92 rfl ?_
  refine z_iand eX11_feed_93 ?_
  refine z_imul eX11_feed_94 ?_
  have r2 := h.1
  have h := h.2
  refine z_isub eX11_feed_95 ?_
  have r3 := h.1
  have h := h.2
  refine z_ishr eX11_feed_96 ?_
  refine z_i2b eX11_feed_97 ?_
  have f4 := h.1
  have h := h.2
  refine z_bast (n := 1620) eX11_feed_98 rfl (ofz r1) f4  ?_
  have r5 := h.1
  have h := h.2
  refine z_inc (m := 1) eX11_feed_99 rfl (Nat.le_of_ble_eq_true rfl) rfl ?_
  refine q_goto (tgt := 18) eX11_feed_102 (by decide) ?_
  exact q_subL rfl (h.1 (ra_ui hA (i8_r _)) hra1 hra2 hra3 hra4 hra5 r5)
set_option maxRecDepth 20000 in
theorem s_X11_feed_18 {s : ST} {a1 : Int} {a2 : Int} {a3 : Int} {a4 : Int} {a5 : Int} {a6 : Int} {Q : ST → Int → Prop} (h : RA s → R32 a1 → R32 a2 → R32 a3 → R32 a4 → R32 a5 → R32 a6 → ((20 ≤ a6 → (R32 (s.1 139 2 + 20) ∧ Q (ui s 139 2 (s.1 139 2 + 20)) (s.1 139 2 + 20))) ∧ (¬ 20 ≤ a6 → ((4 ≤ a6 → ((8 ≤ a6 → ((12 ≤ a6 → ((16 ≤ a6 → K_X11_feed_71 s a1 a2 a3 a4 a5 a6 a5 Q) ∧ (¬ 16 ≤ a6 → K_X11_feed_71 s a1 a2 a3 a4 a5 a6 a4 Q))) ∧ (¬ 12 ≤ a6 → K_X11_feed_71 s a1 a2 a3 a4 a5 a6 a3 Q))) ∧ (¬ 8 ≤ a6 → K_X11_feed_71 s a1 a2 a3 a4 a5 a6 a2 Q))) ∧ (¬ 4 ≤ a6 → K_X11_feed_71 s a1 a2 a3 a4 a5 a6 a1 Q))))) : K_X11_feed_18 s a1 a2 a3 a4 a5 a6 Q := by
  refine ⟨?_, trivial⟩
  intro hA hra1 hra2 hra3 hra4 hra5 hra6
  have h := h hA hra1 hra2 hra3 hra4 hra5 hra6
  refine q_iload eX11_feed_18 rfl ?_
  refine q_bi (v := Int32.ofInt 20) eX11_feed_20 rfl ?_
  refine q_cz_ge (tgt := 105) (a := a6) (b := 20) eX11_feed_22 (by decide) (ofz hra6) (ofz (r32l rfl)) (fun c22 => ?_) (fun c22 => ?_)
  · have h := h.1 c22
    refine q_aload_n eX11_feed_105 rfl ?_
    refine q_dup eX11_feed_106 rfl ?_
    refine q_getf (c := 11) (n := 0) (k := 2) (v := .int (Int32.ofInt (s.1 139 2))) eX11_feed_107 rfl (by decide) (by decide) fX11_318 rfl ?_
    refine q_bi (v := Int32.ofInt 20) eX11_feed_110 rfl ?_
    refine z_iadd eX11_feed_112 ?_
    have r1 := h.1
    have h := h.2
    refine z_putI (c := 11) (n := 0) (k := 2) (kz := 2) eX11_feed_113 rfl (by decide) (by decide) fX11_318 rfl rfl rfl ?_
    refine q_aload_n eX11_feed_116 rfl ?_
    refine q_getf (c := 11) (n := 0) (k := 2) (v := .int (Int32.ofInt (s.1 139 2 + 20))) eX11_feed_117 rfl (by decide) (by decide) fX11_318 rfl ?_
    exact q_iret eX11_feed_120 rfl ⟨_, _, rfl, (ra_ui hA r1), r1, rfl, h⟩
  · have h := h.2 c22
    refine q_iload eX11_feed_25 rfl ?_
    refine q_ic (v := Int32.ofInt 4) eX11_feed_27 rfl ?_
    refine q_cz_ge (tgt := 35) (a := a6) (b := 4) eX11_feed_28 (by decide) (ofz hra6) (ofz (r32l rfl)) (fun c28 => ?_) (fun c28 => ?_)
    · have h := h.1 c28
      refine q_iload eX11_feed_35 rfl ?_
      refine q_bi (v := Int32.ofInt 8) eX11_feed_37 rfl ?_
      refine q_cz_ge (tgt := 46) (a := a6) (b := 8) eX11_feed_39 (by decide) (ofz hra6) (ofz (r32l rfl)) (fun c39 => ?_) (fun c39 => ?_)
      · have h := h.1 c39
        refine q_iload eX11_feed_46 rfl ?_
        refine q_bi (v := Int32.ofInt 12) eX11_feed_48 rfl ?_
        refine q_cz_ge (tgt := 57) (a := a6) (b := 12) eX11_feed_50 (by decide) (ofz hra6) (ofz (r32l rfl)) (fun c50 => ?_) (fun c50 => ?_)
        · have h := h.1 c50
          refine q_iload eX11_feed_57 rfl ?_
          refine q_bi (v := Int32.ofInt 16) eX11_feed_59 rfl ?_
          refine q_cz_ge (tgt := 69) (a := a6) (b := 16) eX11_feed_61 (by decide) (ofz hra6) (ofz (r32l rfl)) (fun c61 => ?_) (fun c61 => ?_)
          · have h := h.1 c61
            refine q_iload eX11_feed_69 rfl ?_
            exact q_subL rfl (h.1 hA hra1 hra2 hra3 hra4 hra5 hra6 hra5)
          · have h := h.2 c61
            refine q_iload eX11_feed_64 rfl ?_
            refine q_goto (tgt := 71) eX11_feed_66 (by decide) ?_
            exact q_subL rfl (h.1 hA hra1 hra2 hra3 hra4 hra5 hra6 hra4)
        · have h := h.2 c50
          refine q_iload_n eX11_feed_53 rfl ?_
          refine q_goto (tgt := 71) eX11_feed_54 (by decide) ?_
          exact q_subL rfl (h.1 hA hra1 hra2 hra3 hra4 hra5 hra6 hra3)
      · have h := h.2 c39
        refine q_iload_n eX11_feed_42 rfl ?_
        refine q_goto (tgt := 71) eX11_feed_43 (by decide) ?_
        exact q_subL rfl (h.1 hA hra1 hra2 hra3 hra4 hra5 hra6 hra2)
    · have h := h.2 c28
      refine q_iload_n eX11_feed_31 rfl ?_
      refine q_goto (tgt := 71) eX11_feed_32 (by decide) ?_
      exact q_subL rfl (h.1 hA hra1 hra2 hra3 hra4 hra5 hra6 hra1)
set_option maxRecDepth 20000 in
theorem s_X11_feed {s : ST} {p : Int} {q : Int} {u : Int} {w : Int} {x : Int} {Q : ST → Int → Prop} (h : RA s → R32 p → R32 q → R32 u → R32 w → R32 x → (R32 (s.1 139 2 + 20) ∧ (((s.1 139 2 + 20) ≤ 1600 → K_X11_feed_18 s p q u w x 0 Q) ∧ (¬ (s.1 139 2 + 20) ≤ 1600 → Q s (-1))))) : C_X11_feed s p q u w x Q := by
  refine ⟨?_, trivial⟩
  intro hA hrp hrq hru hrw hrx
  have h := h hA hrp hrq hru hrw hrx
  refine q_enter (by decide) (Nat.le_of_ble_eq_true rfl) ?_
  refine q_aload_n eX11_feed_0 rfl ?_
  refine q_getf (c := 11) (n := 0) (k := 2) (v := .int (Int32.ofInt (s.1 139 2))) eX11_feed_1 rfl (by decide) (by decide) fX11_318 rfl ?_
  refine q_bi (v := Int32.ofInt 20) eX11_feed_4 rfl ?_
  refine z_iadd eX11_feed_6 ?_
  have r1 := h.1
  have h := h.2
  refine q_si (v := Int32.ofInt 1600) eX11_feed_7 rfl ?_
  refine q_cz_le (tgt := 15) (a := (s.1 139 2 + 20)) (b := 1600) eX11_feed_10 (by decide) (ofz r1) (ofz (r32l rfl)) (fun c10 => ?_) (fun c10 => ?_)
  · have h := h.1 c10
    refine q_ic (v := Int32.ofInt 0) eX11_feed_15 rfl ?_
    refine q_istore eX11_feed_16 (Nat.le_of_ble_eq_true rfl) ?_
    exact q_subL rfl (h.1 hA hrp hrq hru hrw hrx (r32l rfl))
  · have h := h.2 c10
    refine q_ic (v := Int32.ofInt (-1)) eX11_feed_13 rfl ?_
    exact q_iret eX11_feed_14 rfl ⟨_, _, rfl, hA, (r32l rfl), rfl, h⟩
theorem eX11_end_0 : decode cX11_end 0 = .ok (.iload_n 1, 1) := by decide +kernel
theorem eX11_end_1 : decode cX11_end 1 = .ok (.ifCond .lt 11, 3) := by decide +kernel
theorem eX11_end_4 : decode cX11_end 4 = .ok (.iload_n 1, 1) := by decide +kernel
theorem eX11_end_5 : decode cX11_end 5 = .ok (.aload_n 0, 1) := by decide +kernel
theorem eX11_end_6 : decode cX11_end 6 = .ok (.getfield 318, 3) := by decide +kernel
theorem eX11_end_9 : decode cX11_end 9 = .ok (.if_icmp .le 5, 3) := by decide +kernel
theorem eX11_end_12 : decode cX11_end 12 = .ok (.iconst (-1), 1) := by decide +kernel
theorem eX11_end_13 : decode cX11_end 13 = .ok (.ireturn, 1) := by decide +kernel
theorem eX11_end_14 : decode cX11_end 14 = .ok (.aload_n 0, 1) := by decide +kernel
theorem eX11_end_15 : decode cX11_end 15 = .ok (.iload_n 1, 1) := by decide +kernel
theorem eX11_end_16 : decode cX11_end 16 = .ok (.putfield 318, 3) := by decide +kernel
theorem eX11_end_19 : decode cX11_end 19 = .ok (.iload_n 1, 1) := by decide +kernel
theorem eX11_end_20 : decode cX11_end 20 = .ok (.ireturn, 1) := by decide +kernel
def C_X11_end (s : ST) (p : Int) (Q : ST → Int → Prop) : Prop := bx <| RA s → R32 p → q_met mX11_end (qs layM s) [.ref 139, .int (Int32.ofInt p)] (PI layM Q)
theorem C_X11_end.mono {s : ST} {p : Int} {Q Q' : ST → Int → Prop} (h : C_X11_end s p Q) (hq : ∀ s v, Q s v → Q' s v) : C_X11_end s p Q' := ⟨fun hA hrp => q_met.mono (h.1 hA hrp) (fun _ _ => PI.mono hq), trivial⟩
set_option maxRecDepth 20000 in
theorem s_X11_end {s : ST} {p : Int} {Q : ST → Int → Prop} (h : RA s → R32 p → ((p < 0 → Q s (-1)) ∧ (¬ p < 0 → ((p ≤ s.1 139 2 → Q (ui s 139 2 p) p) ∧ (¬ p ≤ s.1 139 2 → Q s (-1)))))) : C_X11_end s p Q := by
  refine ⟨?_, trivial⟩
  intro hA hrp
  have h := h hA hrp
  refine q_enter (by decide) (Nat.le_of_ble_eq_true rfl) ?_
  refine q_iload_n eX11_end_0 rfl ?_
  refine q_iz_lt (tgt := 12) (a := p) eX11_end_1 (by decide) (ofz hrp) (fun c1 => ?_) (fun c1 => ?_)
  · have h := h.1 c1
    refine q_ic (v := Int32.ofInt (-1)) eX11_end_12 rfl ?_
    exact q_iret eX11_end_13 rfl ⟨_, _, rfl, hA, (r32l rfl), rfl, h⟩
  · have h := h.2 c1
    refine q_iload_n eX11_end_4 rfl ?_
    refine q_aload_n eX11_end_5 rfl ?_
    refine q_getf (c := 11) (n := 0) (k := 2) (v := .int (Int32.ofInt (s.1 139 2))) eX11_end_6 rfl (by decide) (by decide) fX11_318 rfl ?_
    refine q_cz_le (tgt := 14) (a := p) (b := s.1 139 2) eX11_end_9 (by decide) (ofz hrp) (ofz (hA _ _)) (fun c9 => ?_) (fun c9 => ?_)
    · have h := h.1 c9
      refine q_aload_n eX11_end_14 rfl ?_
      refine q_iload_n eX11_end_15 rfl ?_
      refine z_putI (c := 11) (n := 0) (k := 2) (kz := 2) eX11_end_16 rfl (by decide) (by decide) fX11_318 rfl rfl rfl ?_
      refine q_iload_n eX11_end_19 rfl ?_
      exact q_iret eX11_end_20 rfl ⟨_, _, rfl, (ra_ui hA hrp), hrp, rfl, h⟩
    · have h := h.2 c9
      refine q_ic (v := Int32.ofInt (-1)) eX11_end_12 rfl ?_
      exact q_iret eX11_end_13 rfl ⟨_, _, rfl, hA, (r32l rfl), rfl, h⟩
