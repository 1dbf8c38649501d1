/-! STEP ROWS of the reference. By program (wip/wp/gen_parts.py). -/
theorem eX11_endsPlace_0 : decode cX11_endsPlace 0 = .ok (.aload_n 0, 1) := by decide +kernel
theorem eX11_endsPlace_1 : decode cX11_endsPlace 1 = .ok (.getfield 73, 3) := by decide +kernel
theorem eX11_endsPlace_4 : decode cX11_endsPlace 4 = .ok (.aload_n 0, 1) := by decide +kernel
theorem eX11_endsPlace_5 : decode cX11_endsPlace 5 = .ok (.getfield 343, 3) := by decide +kernel
theorem eX11_endsPlace_8 : decode cX11_endsPlace 8 = .ok (.iconst 1, 1) := by decide +kernel
theorem eX11_endsPlace_9 : decode cX11_endsPlace 9 = .ok (.isub, 1) := by decide +kernel
theorem eX11_endsPlace_10 : decode cX11_endsPlace 10 = .ok (.iaload, 1) := by decide +kernel
theorem eX11_endsPlace_11 : decode cX11_endsPlace 11 = .ok (.istore_n 1, 1) := by decide +kernel
theorem eX11_endsPlace_12 : decode cX11_endsPlace 12 = .ok (.bipush 40, 2) := by decide +kernel
theorem eX11_endsPlace_14 : decode cX11_endsPlace 14 = .ok (.aload_n 0, 1) := by decide +kernel
theorem eX11_endsPlace_15 : decode cX11_endsPlace 15 = .ok (.getfield 324, 3) := by decide +kernel
theorem eX11_endsPlace_18 : decode cX11_endsPlace 18 = .ok (.imul, 1) := by decide +kernel
theorem eX11_endsPlace_19 : decode cX11_endsPlace 19 = .ok (.iload_n 1, 1) := by decide +kernel
theorem eX11_endsPlace_20 : decode cX11_endsPlace 20 = .ok (.iadd, 1) := by decide +kernel
theorem eX11_endsPlace_21 : decode cX11_endsPlace 21 = .ok (.istore_n 2, 1) := by decide +kernel
theorem eX11_endsPlace_22 : decode cX11_endsPlace 22 = .ok (.aload_n 0, 1) := by decide +kernel
theorem eX11_endsPlace_23 : decode cX11_endsPlace 23 = .ok (.getfield 76, 3) := by decide +kernel
theorem eX11_endsPlace_26 : decode cX11_endsPlace 26 = .ok (.aload_n 0, 1) := by decide +kernel
theorem eX11_endsPlace_27 : decode cX11_endsPlace 27 = .ok (.getfield 343, 3) := by decide +kernel
theorem eX11_endsPlace_30 : decode cX11_endsPlace 30 = .ok (.iconst 1, 1) := by decide +kernel
theorem eX11_endsPlace_31 : decode cX11_endsPlace 31 = .ok (.isub, 1) := by decide +kernel
theorem eX11_endsPlace_32 : decode cX11_endsPlace 32 = .ok (.iaload, 1) := by decide +kernel
theorem eX11_endsPlace_33 : decode cX11_endsPlace 33 = .ok (.aload_n 0, 1) := by decide +kernel
theorem eX11_endsPlace_34 : decode cX11_endsPlace 34 = .ok (.getfield 33, 3) := by decide +kernel
theorem eX11_endsPlace_37 : decode cX11_endsPlace 37 = .ok (.iload_n 2, 1) := by decide +kernel
theorem eX11_endsPlace_38 : decode cX11_endsPlace 38 = .ok (.iaload, 1) := by decide +kernel
theorem eX11_endsPlace_39 : decode cX11_endsPlace 39 = .ok (.invokestatic 365, 3) := by decide +kernel
theorem eX11_endsPlace_42 : decode cX11_endsPlace 42 = .ok (.if_icmp .ge 5, 3) := by decide +kernel
theorem eX11_endsPlace_45 : decode cX11_endsPlace 45 = .ok (.iconst 1, 1) := by decide +kernel
theorem eX11_endsPlace_46 : decode cX11_endsPlace 46 = .ok (.ireturn, 1) := by decide +kernel
theorem eX11_endsPlace_47 : decode cX11_endsPlace 47 = .ok (.aload_n 0, 1) := by decide +kernel
theorem eX11_endsPlace_48 : decode cX11_endsPlace 48 = .ok (.getfield 45, 3) := by decide +kernel
theorem eX11_endsPlace_51 : decode cX11_endsPlace 51 = .ok (.iload_n 2, 1) := by decide +kernel
theorem eX11_endsPlace_52 : decode cX11_endsPlace 52 = .ok (.aload_n 0, 1) := by decide +kernel
theorem eX11_endsPlace_53 : decode cX11_endsPlace 53 = .ok (.getfield 20, 3) := by decide +kernel
theorem eX11_endsPlace_56 : decode cX11_endsPlace 56 = .ok (.aload_n 0, 1) := by decide +kernel
theorem eX11_endsPlace_57 : decode cX11_endsPlace 57 = .ok (.getfield 324, 3) := by decide +kernel
theorem eX11_endsPlace_60 : decode cX11_endsPlace 60 = .ok (.iaload, 1) := by decide +kernel
theorem eX11_endsPlace_61 : decode cX11_endsPlace 61 = .ok (.iconst 1, 1) := by decide +kernel
theorem eX11_endsPlace_62 : decode cX11_endsPlace 62 = .ok (.isub, 1) := by decide +kernel
theorem eX11_endsPlace_63 : decode cX11_endsPlace 63 = .ok (.iastore, 1) := by decide +kernel
theorem eX11_endsPlace_64 : decode cX11_endsPlace 64 = .ok (.aload_n 0, 1) := by decide +kernel
theorem eX11_endsPlace_65 : decode cX11_endsPlace 65 = .ok (.getfield 48, 3) := by decide +kernel
theorem eX11_endsPlace_68 : decode cX11_endsPlace 68 = .ok (.iload_n 2, 1) := by decide +kernel
theorem eX11_endsPlace_69 : decode cX11_endsPlace 69 = .ok (.aload_n 0, 1) := by decide +kernel
theorem eX11_endsPlace_70 : decode cX11_endsPlace 70 = .ok (.aload_n 0, 1) := by decide +kernel
theorem eX11_endsPlace_71 : decode cX11_endsPlace 71 = .ok (.getfield 324, 3) := by decide +kernel
theorem eX11_endsPlace_74 : decode cX11_endsPlace 74 = .ok (.iload_n 1, 1) := by decide +kernel
theorem eX11_endsPlace_75 : decode cX11_endsPlace 75 = .ok (.invokevirtual 368, 3) := by decide +kernel
theorem eX11_endsPlace_78 : decode cX11_endsPlace 78 = .ok (.iastore, 1) := by decide +kernel
theorem eX11_endsPlace_79 : decode cX11_endsPlace 79 = .ok (.aload_n 0, 1) := by decide +kernel
theorem eX11_endsPlace_80 : decode cX11_endsPlace 80 = .ok (.dup, 1) := by decide +kernel
theorem eX11_endsPlace_81 : decode cX11_endsPlace 81 = .ok (.getfield 343, 3) := by decide +kernel
theorem eX11_endsPlace_84 : decode cX11_endsPlace 84 = .ok (.iconst 1, 1) := by decide +kernel
theorem eX11_endsPlace_85 : decode cX11_endsPlace 85 = .ok (.isub, 1) := by decide +kernel
theorem eX11_endsPlace_86 : decode cX11_endsPlace 86 = .ok (.putfield 343, 3) := by decide +kernel
theorem eX11_endsPlace_89 : decode cX11_endsPlace 89 = .ok (.aload_n 0, 1) := by decide +kernel
theorem eX11_endsPlace_90 : decode cX11_endsPlace 90 = .ok (.getfield 343, 3) := by decide +kernel
theorem eX11_endsPlace_93 : decode cX11_endsPlace 93 = .ok (.ifCond .ne 5, 3) := by decide +kernel
theorem eX11_endsPlace_96 : decode cX11_endsPlace 96 = .ok (.iconst 0, 1) := by decide +kernel
theorem eX11_endsPlace_97 : decode cX11_endsPlace 97 = .ok (.ireturn, 1) := by decide +kernel
theorem eX11_endsPlace_98 : decode cX11_endsPlace 98 = .ok (.bipush 40, 2) := by decide +kernel
theorem eX11_endsPlace_100 : decode cX11_endsPlace 100 = .ok (.aload_n 0, 1) := by decide +kernel
theorem eX11_endsPlace_101 : decode cX11_endsPlace 101 = .ok (.getfield 324, 3) := by decide +kernel
theorem eX11_endsPlace_104 : decode cX11_endsPlace 104 = .ok (.imul, 1) := by decide +kernel
theorem eX11_endsPlace_105 : decode cX11_endsPlace 105 = .ok (.aload_n 0, 1) := by decide +kernel
theorem eX11_endsPlace_106 : decode cX11_endsPlace 106 = .ok (.getfield 73, 3) := by decide +kernel
theorem eX11_endsPlace_109 : decode cX11_endsPlace 109 = .ok (.aload_n 0, 1) := by decide +kernel
theorem eX11_endsPlace_110 : decode cX11_endsPlace 110 = .ok (.getfield 343, 3) := by decide +kernel
theorem eX11_endsPlace_113 : decode cX11_endsPlace 113 = .ok (.iconst 1, 1) := by decide +kernel
theorem eX11_endsPlace_114 : decode cX11_endsPlace 114 = .ok (.isub, 1) := by decide +kernel
theorem eX11_endsPlace_115 : decode cX11_endsPlace 115 = .ok (.iaload, 1) := by decide +kernel
theorem eX11_endsPlace_116 : decode cX11_endsPlace 116 = .ok (.iadd, 1) := by decide +kernel
theorem eX11_endsPlace_117 : decode cX11_endsPlace 117 = .ok (.istore_n 3, 1) := by decide +kernel
theorem eX11_endsPlace_118 : decode cX11_endsPlace 118 = .ok (.aload_n 0, 1) := by decide +kernel
theorem eX11_endsPlace_119 : decode cX11_endsPlace 119 = .ok (.getfield 51, 3) := by decide +kernel
theorem eX11_endsPlace_122 : decode cX11_endsPlace 122 = .ok (.iconst 3, 1) := by decide +kernel
theorem eX11_endsPlace_123 : decode cX11_endsPlace 123 = .ok (.iload_n 3, 1) := by decide +kernel
theorem eX11_endsPlace_124 : decode cX11_endsPlace 124 = .ok (.imul, 1) := by decide +kernel
theorem eX11_endsPlace_125 : decode cX11_endsPlace 125 = .ok (.aload_n 0, 1) := by decide +kernel
theorem eX11_endsPlace_126 : decode cX11_endsPlace 126 = .ok (.getfield 76, 3) := by decide +kernel
theorem eX11_endsPlace_129 : decode cX11_endsPlace 129 = .ok (.aload_n 0, 1) := by decide +kernel
theorem eX11_endsPlace_130 : decode cX11_endsPlace 130 = .ok (.getfield 343, 3) := by decide +kernel
theorem eX11_endsPlace_133 : decode cX11_endsPlace 133 = .ok (.iconst 1, 1) := by decide +kernel
theorem eX11_endsPlace_134 : decode cX11_endsPlace 134 = .ok (.isub, 1) := by decide +kernel
theorem eX11_endsPlace_135 : decode cX11_endsPlace 135 = .ok (.iaload, 1) := by decide +kernel
theorem eX11_endsPlace_136 : decode cX11_endsPlace 136 = .ok (.iadd, 1) := by decide +kernel
theorem eX11_endsPlace_137 : decode cX11_endsPlace 137 = .ok (.iload_n 1, 1) := by decide +kernel
theorem eX11_endsPlace_138 : decode cX11_endsPlace 138 = .ok (.iastore, 1) := by decide +kernel
theorem eX11_endsPlace_139 : decode cX11_endsPlace 139 = .ok (.aload_n 0, 1) := by decide +kernel
theorem eX11_endsPlace_140 : decode cX11_endsPlace 140 = .ok (.getfield 76, 3) := by decide +kernel
theorem eX11_endsPlace_143 : decode cX11_endsPlace 143 = .ok (.aload_n 0, 1) := by decide +kernel
theorem eX11_endsPlace_144 : decode cX11_endsPlace 144 = .ok (.getfield 343, 3) := by decide +kernel
theorem eX11_endsPlace_147 : decode cX11_endsPlace 147 = .ok (.iconst 1, 1) := by decide +kernel
theorem eX11_endsPlace_148 : decode cX11_endsPlace 148 = .ok (.isub, 1) := by decide +kernel
theorem eX11_endsPlace_149 : decode cX11_endsPlace 149 = .ok (.dup2, 1) := by decide +kernel
theorem eX11_endsPlace_150 : decode cX11_endsPlace 150 = .ok (.iaload, 1) := by decide +kernel
theorem eX11_endsPlace_151 : decode cX11_endsPlace 151 = .ok (.iconst 1, 1) := by decide +kernel
theorem eX11_endsPlace_152 : decode cX11_endsPlace 152 = .ok (.iadd, 1) := by decide +kernel
theorem eX11_endsPlace_153 : decode cX11_endsPlace 153 = .ok (.iastore, 1) := by decide +kernel
theorem eX11_endsPlace_154 : decode cX11_endsPlace 154 = .ok (.aload_n 0, 1) := by decide +kernel
theorem eX11_endsPlace_155 : decode cX11_endsPlace 155 = .ok (.getfield 33, 3) := by decide +kernel
theorem eX11_endsPlace_158 : decode cX11_endsPlace 158 = .ok (.iload_n 3, 1) := by decide +kernel
theorem eX11_endsPlace_159 : decode cX11_endsPlace 159 = .ok (.iaload, 1) := by decide +kernel
theorem eX11_endsPlace_160 : decode cX11_endsPlace 160 = .ok (.iconst 4, 1) := by decide +kernel
theorem eX11_endsPlace_161 : decode cX11_endsPlace 161 = .ok (.if_icmp .ne 29, 3) := by decide +kernel
theorem eX11_endsPlace_164 : decode cX11_endsPlace 164 = .ok (.aload_n 0, 1) := by decide +kernel
theorem eX11_endsPlace_165 : decode cX11_endsPlace 165 = .ok (.getfield 76, 3) := by decide +kernel
theorem eX11_endsPlace_168 : decode cX11_endsPlace 168 = .ok (.aload_n 0, 1) := by decide +kernel
theorem eX11_endsPlace_169 : decode cX11_endsPlace 169 = .ok (.getfield 343, 3) := by decide +kernel
theorem eX11_endsPlace_172 : decode cX11_endsPlace 172 = .ok (.iconst 1, 1) := by decide +kernel
theorem eX11_endsPlace_173 : decode cX11_endsPlace 173 = .ok (.isub, 1) := by decide +kernel
theorem eX11_endsPlace_174 : decode cX11_endsPlace 174 = .ok (.iaload, 1) := by decide +kernel
theorem eX11_endsPlace_175 : decode cX11_endsPlace 175 = .ok (.iconst 1, 1) := by decide +kernel
theorem eX11_endsPlace_176 : decode cX11_endsPlace 176 = .ok (.if_icmp .ne 14, 3) := by decide +kernel
theorem eX11_endsPlace_179 : decode cX11_endsPlace 179 = .ok (.aload_n 0, 1) := by decide +kernel
theorem eX11_endsPlace_180 : decode cX11_endsPlace 180 = .ok (.aload_n 0, 1) := by decide +kernel
theorem eX11_endsPlace_181 : decode cX11_endsPlace 181 = .ok (.ldc2_w 235, 3) := by decide +kernel
theorem eX11_endsPlace_184 : decode cX11_endsPlace 184 = .ok (.invokevirtual 333, 3) := by decide +kernel
theorem eX11_endsPlace_187 : decode cX11_endsPlace 187 = .ok (.invokevirtual 339, 3) := by decide +kernel
theorem eX11_endsPlace_190 : decode cX11_endsPlace 190 = .ok (.aload_n 0, 1) := by decide +kernel
theorem eX11_endsPlace_191 : decode cX11_endsPlace 191 = .ok (.getfield 76, 3) := by decide +kernel
theorem eX11_endsPlace_194 : decode cX11_endsPlace 194 = .ok (.aload_n 0, 1) := by decide +kernel
theorem eX11_endsPlace_195 : decode cX11_endsPlace 195 = .ok (.getfield 343, 3) := by decide +kernel
theorem eX11_endsPlace_198 : decode cX11_endsPlace 198 = .ok (.iconst 1, 1) := by decide +kernel
theorem eX11_endsPlace_199 : decode cX11_endsPlace 199 = .ok (.isub, 1) := by decide +kernel
theorem eX11_endsPlace_200 : decode cX11_endsPlace 200 = .ok (.iaload, 1) := by decide +kernel
theorem eX11_endsPlace_201 : decode cX11_endsPlace 201 = .ok (.aload_n 0, 1) := by decide +kernel
theorem eX11_endsPlace_202 : decode cX11_endsPlace 202 = .ok (.getfield 33, 3) := by decide +kernel
theorem eX11_endsPlace_205 : decode cX11_endsPlace 205 = .ok (.iload_n 3, 1) := by decide +kernel
theorem eX11_endsPlace_206 : decode cX11_endsPlace 206 = .ok (.iaload, 1) := by decide +kernel
theorem eX11_endsPlace_207 : decode cX11_endsPlace 207 = .ok (.invokestatic 365, 3) := by decide +kernel
theorem eX11_endsPlace_210 : decode cX11_endsPlace 210 = .ok (.if_icmp .ge 7, 3) := by decide +kernel
theorem eX11_endsPlace_213 : decode cX11_endsPlace 213 = .ok (.iconst 1, 1) := by decide +kernel
theorem eX11_endsPlace_214 : decode cX11_endsPlace 214 = .ok (.goto 4, 3) := by decide +kernel
theorem eX11_endsPlace_217 : decode cX11_endsPlace 217 = .ok (.iconst 0, 1) := by decide +kernel
theorem eX11_endsPlace_218 : decode cX11_endsPlace 218 = .ok (.ireturn, 1) := by decide +kernel
def C_X11_endsPlace (s : ST) (Q : ST → Int → Prop) : Prop := bx <| RA s → q_met mX11_endsPlace (qs layM s) [.ref 139] (PB layM Q)
theorem C_X11_endsPlace.mono {s : ST} {Q Q' : ST → Int → Prop} (h : C_X11_endsPlace s Q) (hq : ∀ s v, Q s v → Q' s v) : C_X11_endsPlace s Q' := ⟨fun hA => q_met.mono (h.1 hA) (fun _ _ => PB.mono hq), trivial⟩
def K_X11_endsPlace_190 (s : ST) (a3 : Int) (Q : ST → Int → Prop) : Prop := bx <| RA s → R32 a3 → q_K mX11_endsPlace (qs layM s) 0 0 190 [(0, .ref 139), (3, .int (Int32.ofInt a3))] [] (q_fin mX11_endsPlace (PB layM Q))
set_option maxRecDepth 20000 in
theorem s_X11_endsPlace_190 {s : ST} {a3 : Int} {Q : ST → Int → Prop} (h : RA s → R32 a3 → (R32 (s.1 139 32 - 1) ∧ (((0 : Int) ≤ (s.1 139 32 - 1) ∧ (s.1 139 32 - 1) < 22) ∧ (((0 : Int) ≤ a3 ∧ a3 < 240) ∧ (((F_X11_kidsOf s (s.1 146 a3)) ≤ s.1 160 (s.1 139 32 - 1) → Q s 0) ∧ (¬ (F_X11_kidsOf s (s.1 146 a3)) ≤ s.1 160 (s.1 139 32 - 1) → Q s 1)))))) : K_X11_endsPlace_190 s a3 Q := by
  refine ⟨?_, trivial⟩
  intro hA hra3
  have h := h hA hra3
  refine q_aload_n eX11_endsPlace_190 rfl ?_
  refine q_getR (c := 11) (n := 0) (k := 31) (a := 160) eX11_endsPlace_191 rfl (by decide) (by decide) fX11_76 rfl rfl ?_
  refine q_aload_n eX11_endsPlace_194 rfl ?_
  refine q_getf (c := 11) (n := 0) (k := 32) (v := .int (Int32.ofInt (s.1 139 32))) eX11_endsPlace_195 rfl (by decide) (by decide) fX11_343 rfl ?_
  refine q_ic (v := Int32.ofInt 1) eX11_endsPlace_198 rfl ?_
  refine z_isub eX11_endsPlace_199 ?_
  have r1 := h.1
  have h := h.2
  have f2 := h.1
  have h := h.2
  refine z_iald (n := 22) eX11_endsPlace_200 rfl (ofz r1) f2 ?_
  refine q_topI (v := Int32.ofInt (s.1 160 (s.1 139 32 - 1))) rfl ?_
  refine q_aload_n eX11_endsPlace_201 rfl ?_
  refine q_getR (c := 11) (n := 0) (k := 15) (a := 146) eX11_endsPlace_202 rfl (by decide) (by decide) fX11_33 rfl rfl ?_
  refine q_iload_n eX11_endsPlace_205 rfl ?_
  have f3 := h.1
  have h := h.2
  refine z_iald (n := 240) eX11_endsPlace_206 rfl (ofz hra3) f3 ?_
  refine q_topI (v := Int32.ofInt (s.1 146 a3)) rfl ?_
  refine q_S1 eX11_endsPlace_207 DX11_kidsOf lX11_365 rfl rfl rfl (p_X11_kidsOf hA (hA _ _)) ?_
  rintro _ _ ⟨r4, rfl, rfl⟩
  refine q_cz_ge (tgt := 217) (a := s.1 160 (s.1 139 32 - 1)) (b := (F_X11_kidsOf s (s.1 146 a3))) eX11_endsPlace_210 (by decide) (ofz (hA _ _)) (ofz r4) (fun c210 => ?_) (fun c210 => ?_)
  · have h := h.1 c210
    refine q_ic (v := Int32.ofInt 0) eX11_endsPlace_217 rfl ?_
    exact q_zret eX11_endsPlace_218 rfl (z01 (Or.inl rfl)) ⟨_, _, rfl, hA, (Or.inl rfl), rfl, h⟩
  · have h := h.2 c210
    refine q_ic (v := Int32.ofInt 1) eX11_endsPlace_213 rfl ?_
    refine q_goto (tgt := 218) eX11_endsPlace_214 (by decide) ?_
    exact q_zret eX11_endsPlace_218 rfl (z01 (Or.inr rfl)) ⟨_, _, rfl, hA, (Or.inr rfl), rfl, h⟩
set_option maxRecDepth 20000 in
theorem s_X11_endsPlace {s : ST} {Q : ST → Int → Prop} (h : RA s → (R32 (s.1 139 32 - 1) ∧ (((0 : Int) ≤ (s.1 139 32 - 1) ∧ (s.1 139 32 - 1) < 22) ∧ (R32 (40 * s.1 139 29) ∧ (R32 ((40 * s.1 139 29) + s.1 159 (s.1 139 32 - 1)) ∧ (((0 : Int) ≤ ((40 * s.1 139 29) + s.1 159 (s.1 139 32 - 1)) ∧ ((40 * s.1 139 29) + s.1 159 (s.1 139 32 - 1)) < 240) ∧ (((F_X11_kidsOf s (s.1 146 ((40 * s.1 139 29) + s.1 159 (s.1 139 32 - 1)))) ≤ s.1 160 (s.1 139 32 - 1) → (((0 : Int) ≤ s.1 139 29 ∧ s.1 139 29 < 6) ∧ (R32 (s.1 142 (s.1 139 29) - 1) ∧ (C_X11_asksHere (ui s 150 ((40 * s.1 139 29) + s.1 159 (s.1 139 32 - 1)) (s.1 142 (s.1 139 29) - 1)) (s.1 139 29) (s.1 159 (s.1 139 32 - 1)) (fun s9 v9 => (R32 (s9.1 139 32 - 1) ∧ ((¬ (s9.1 139 32 - 1) = 0 → (R32 (40 * s9.1 139 29) ∧ (R32 ((s9.1 139 32 - 1) - 1) ∧ (((0 : Int) ≤ ((s9.1 139 32 - 1) - 1) ∧ ((s9.1 139 32 - 1) - 1) < 22) ∧ (R32 ((40 * s9.1 139 29) + s9.1 159 ((s9.1 139 32 - 1) - 1)) ∧ (R32 (3 * ((40 * s9.1 139 29) + s9.1 159 ((s9.1 139 32 - 1) - 1))) ∧ (R32 ((3 * ((40 * s9.1 139 29) + s9.1 159 ((s9.1 139 32 - 1) - 1))) + s9.1 160 ((s9.1 139 32 - 1) - 1)) ∧ (((0 : Int) ≤ ((3 * ((40 * s9.1 139 29) + s9.1 159 ((s9.1 139 32 - 1) - 1))) + s9.1 160 ((s9.1 139 32 - 1) - 1)) ∧ ((3 * ((40 * s9.1 139 29) + s9.1 159 ((s9.1 139 32 - 1) - 1))) + s9.1 160 ((s9.1 139 32 - 1) - 1)) < 720) ∧ (R32 (s9.1 160 ((s9.1 139 32 - 1) - 1) + 1) ∧ (((0 : Int) ≤ ((40 * s9.1 139 29) + s9.1 159 ((s9.1 139 32 - 1) - 1)) ∧ ((40 * s9.1 139 29) + s9.1 159 ((s9.1 139 32 - 1) - 1)) < 240) ∧ ((¬ s9.1 146 ((40 * s9.1 139 29) + s9.1 159 ((s9.1 139 32 - 1) - 1)) = 4 → K_X11_endsPlace_190 (ui (ui (ui (ui s9 151 ((40 * s.1 139 29) + s.1 159 (s.1 139 32 - 1)) v9) 139 32 (s9.1 139 32 - 1)) 152 ((3 * ((40 * s9.1 139 29) + s9.1 159 ((s9.1 139 32 - 1) - 1))) + s9.1 160 ((s9.1 139 32 - 1) - 1)) (s.1 159 (s.1 139 32 - 1))) 160 ((s9.1 139 32 - 1) - 1) (s9.1 160 ((s9.1 139 32 - 1) - 1) + 1)) ((40 * s9.1 139 29) + s9.1 159 ((s9.1 139 32 - 1) - 1)) Q) ∧ (s9.1 146 ((40 * s9.1 139 29) + s9.1 159 ((s9.1 139 32 - 1) - 1)) = 4 → ((¬ (ui (ui (ui (ui s9 151 ((40 * s.1 139 29) + s.1 159 (s.1 139 32 - 1)) v9) 139 32 (s9.1 139 32 - 1)) 152 ((3 * ((40 * s9.1 139 29) + s9.1 159 ((s9.1 139 32 - 1) - 1))) + s9.1 160 ((s9.1 139 32 - 1) - 1)) (s.1 159 (s.1 139 32 - 1))) 160 ((s9.1 139 32 - 1) - 1) (s9.1 160 ((s9.1 139 32 - 1) - 1) + 1)).1 160 ((s9.1 139 32 - 1) - 1) = 1 → K_X11_endsPlace_190 (ui (ui (ui (ui s9 151 ((40 * s.1 139 29) + s.1 159 (s.1 139 32 - 1)) v9) 139 32 (s9.1 139 32 - 1)) 152 ((3 * ((40 * s9.1 139 29) + s9.1 159 ((s9.1 139 32 - 1) - 1))) + s9.1 160 ((s9.1 139 32 - 1) - 1)) (s.1 159 (s.1 139 32 - 1))) 160 ((s9.1 139 32 - 1) - 1) (s9.1 160 ((s9.1 139 32 - 1) - 1) + 1)) ((40 * s9.1 139 29) + s9.1 159 ((s9.1 139 32 - 1) - 1)) Q) ∧ ((ui (ui (ui (ui s9 151 ((40 * s.1 139 29) + s.1 159 (s.1 139 32 - 1)) v9) 139 32 (s9.1 139 32 - 1)) 152 ((3 * ((40 * s9.1 139 29) + s9.1 159 ((s9.1 139 32 - 1) - 1))) + s9.1 160 ((s9.1 139 32 - 1) - 1)) (s.1 159 (s.1 139 32 - 1))) 160 ((s9.1 139 32 - 1) - 1) (s9.1 160 ((s9.1 139 32 - 1) - 1) + 1)).1 160 ((s9.1 139 32 - 1) - 1) = 1 → (C_X11_must (ui (ui (ui (ui s9 151 ((40 * s.1 139 29) + s.1 159 (s.1 139 32 - 1)) v9) 139 32 (s9.1 139 32 - 1)) 152 ((3 * ((40 * s9.1 139 29) + s9.1 159 ((s9.1 139 32 - 1) - 1))) + s9.1 160 ((s9.1 139 32 - 1) - 1)) (s.1 159 (s.1 139 32 - 1))) 160 ((s9.1 139 32 - 1) - 1) (s9.1 160 ((s9.1 139 32 - 1) - 1) + 1)) (F_X11_isWord (ui (ui (ui (ui s9 151 ((40 * s.1 139 29) + s.1 159 (s.1 139 32 - 1)) v9) 139 32 (s9.1 139 32 - 1)) 152 ((3 * ((40 * s9.1 139 29) + s9.1 159 ((s9.1 139 32 - 1) - 1))) + s9.1 160 ((s9.1 139 32 - 1) - 1)) (s.1 159 (s.1 139 32 - 1))) 160 ((s9.1 139 32 - 1) - 1) (s9.1 160 ((s9.1 139 32 - 1) - 1) + 1)) 26990) (fun s21 => K_X11_endsPlace_190 s21 ((40 * s9.1 139 29) + s9.1 159 ((s9.1 139 32 - 1) - 1)) Q)))))))))))))))) ∧ ((s9.1 139 32 - 1) = 0 → Q (ui (ui s9 151 ((40 * s.1 139 29) + s.1 159 (s.1 139 32 - 1)) v9) 139 32 (s9.1 139 32 - 1)) 0)))))))) ∧ (¬ (F_X11_kidsOf s (s.1 146 ((40 * s.1 139 29) + s.1 159 (s.1 139 32 - 1)))) ≤ s.1 160 (s.1 139 32 - 1) → Q s 1)))))))) : C_X11_endsPlace s Q := by
  refine ⟨?_, trivial⟩
  intro hA
  have h := h hA
  refine q_enter (by decide) (Nat.le_of_ble_eq_true rfl) ?_
  refine q_aload_n eX11_endsPlace_0 rfl ?_
  refine q_getR (c := 11) (n := 0) (k := 30) (a := 159) eX11_endsPlace_1 rfl (by decide) (by decide) fX11_73 rfl rfl ?_
  refine q_aload_n eX11_endsPlace_4 rfl ?_
  refine q_getf (c := 11) (n := 0) (k := 32) (v := .int (Int32.ofInt (s.1 139 32))) eX11_endsPlace_5 rfl (by decide) (by decide) fX11_343 rfl ?_
  refine q_ic (v := Int32.ofInt 1) eX11_endsPlace_8 rfl ?_
  refine z_isub eX11_endsPlace_9 ?_
  have r1 := h.1
  have h := h.2
  have f2 := h.1
  have h := h.2
  refine z_iald (n := 22) eX11_endsPlace_10 rfl (ofz r1) f2 ?_
  refine q_topI (v := Int32.ofInt (s.1 159 (s.1 139 32 - 1))) rfl ?_
  refine q_istore_n eX11_endsPlace_11 (Nat.le_of_ble_eq_true rfl) ?_
  refine q_bi (v := Int32.ofInt 40) eX11_endsPlace_12 rfl ?_
  refine q_aload_n eX11_endsPlace_14 rfl ?_
  refine q_getf (c := 11) (n := 0) (k := 29) (v := .int (Int32.ofInt (s.1 139 29))) eX11_endsPlace_15 rfl (by decide) (by decide) fX11_324 rfl ?_
  refine z_imul eX11_endsPlace_18 ?_
  have r3 := h.1
  have h := h.2
  refine q_iload_n eX11_endsPlace_19 rfl ?_
  refine z_iadd eX11_endsPlace_20 ?_
  have r4 := h.1
  have h := h.2
  refine q_istore_n eX11_endsPlace_21 (Nat.le_of_ble_eq_true rfl) ?_
  refine q_aload_n eX11_endsPlace_22 rfl ?_
  refine q_getR (c := 11) (n := 0) (k := 31) (a := 160) eX11_endsPlace_23 rfl (by decide) (by decide) fX11_76 rfl rfl ?_
  refine q_aload_n eX11_endsPlace_26 rfl ?_
  refine q_getf (c := 11) (n := 0) (k := 32) (v := .int (Int32.ofInt (s.1 139 32))) eX11_endsPlace_27 rfl (by decide) (by decide) fX11_343 rfl ?_
  refine q_ic (v := Int32.ofInt 1) eX11_endsPlace_30 rfl ?_
  refine z_isub eX11_endsPlace_31 ?_
  refine z_iald (n := 22) eX11_endsPlace_32 rfl (ofz r1) f2 ?_
  refine q_topI (v := Int32.ofInt (s.1 160 (s.1 139 32 - 1))) rfl ?_
  refine q_aload_n eX11_endsPlace_33 rfl ?_
  refine q_getR (c := 11) (n := 0) (k := 15) (a := 146) eX11_endsPlace_34 rfl (by decide) (by decide) fX11_33 rfl rfl ?_
  refine q_iload_n eX11_endsPlace_37 rfl ?_
  have f5 := h.1
  have h := h.2
  refine z_iald (n := 240) eX11_endsPlace_38 rfl (ofz r4) f5 ?_
  refine q_topI (v := Int32.ofInt (s.1 146 ((40 * s.1 139 29) + s.1 159 (s.1 139 32 - 1)))) rfl ?_
  refine q_S1 eX11_endsPlace_39 DX11_kidsOf lX11_365 rfl rfl rfl (p_X11_kidsOf hA (hA _ _)) ?_
  rintro _ _ ⟨r6, rfl, rfl⟩
  refine q_cz_ge (tgt := 47) (a := s.1 160 (s.1 139 32 - 1)) (b := (F_X11_kidsOf s (s.1 146 ((40 * s.1 139 29) + s.1 159 (s.1 139 32 - 1))))) eX11_endsPlace_42 (by decide) (ofz (hA _ _)) (ofz r6) (fun c42 => ?_) (fun c42 => ?_)
  · have h := h.1 c42
    refine q_aload_n eX11_endsPlace_47 rfl ?_
    refine q_getR (c := 11) (n := 0) (k := 19) (a := 150) eX11_endsPlace_48 rfl (by decide) (by decide) fX11_45 rfl rfl ?_
    refine q_iload_n eX11_endsPlace_51 rfl ?_
    refine q_aload_n eX11_endsPlace_52 rfl ?_
    refine q_getR (c := 11) (n := 0) (k := 11) (a := 142) eX11_endsPlace_53 rfl (by decide) (by decide) fX11_20 rfl rfl ?_
    refine q_aload_n eX11_endsPlace_56 rfl ?_
    refine q_getf (c := 11) (n := 0) (k := 29) (v := .int (Int32.ofInt (s.1 139 29))) eX11_endsPlace_57 rfl (by decide) (by decide) fX11_324 rfl ?_
    have f7 := h.1
    have h := h.2
    refine z_iald (n := 6) eX11_endsPlace_60 rfl (ofz (hA _ _)) f7 ?_
    refine q_topI (v := Int32.ofInt (s.1 142 (s.1 139 29))) rfl ?_
    refine q_ic (v := Int32.ofInt 1) eX11_endsPlace_61 rfl ?_
    refine z_isub eX11_endsPlace_62 ?_
    have r8 := h.1
    have h := h.2
    refine z_iast (n := 240) eX11_endsPlace_63 rfl (ofz r4) f5  ?_
    refine q_aload_n eX11_endsPlace_64 rfl ?_
    refine q_getR (c := 11) (n := 0) (k := 20) (a := 151) eX11_endsPlace_65 rfl (by decide) (by decide) fX11_48 rfl rfl ?_
    refine q_iload_n eX11_endsPlace_68 rfl ?_
    refine q_aload_n eX11_endsPlace_69 rfl ?_
    refine q_aload_n eX11_endsPlace_70 rfl ?_
    refine q_getf (c := 11) (n := 0) (k := 29) (v := .int (Int32.ofInt (s.1 139 29))) eX11_endsPlace_71 rfl (by decide) (by decide) fX11_324 rfl ?_
    refine q_iload_n eX11_endsPlace_74 rfl ?_
    refine q_V2 (ci := 11) (n := 0) eX11_endsPlace_75 DX11_asksHere lX11_368 rfl (by decide) rfl rfl rfl rfl (h.1 (ra_ui hA r8) (hA _ _) (hA _ _)) ?_
    rintro _ _ ⟨s9, v9, rfl, hA9, r9, rfl, h⟩
    refine z_iast (n := 240) eX11_endsPlace_78 rfl (ofz r4) f5  ?_
    refine q_aload_n eX11_endsPlace_79 rfl ?_
    refine q_dup eX11_endsPlace_80 rfl ?_
    refine q_getf (c := 11) (n := 0) (k := 32) (v := .int (Int32.ofInt (s9.1 139 32))) eX11_endsPlace_81 rfl (by decide) (by decide) fX11_343 rfl ?_
    refine q_ic (v := Int32.ofInt 1) eX11_endsPlace_84 rfl ?_
    refine z_isub eX11_endsPlace_85 ?_
    have r10 := h.1
    have h := h.2
    refine z_putI (c := 11) (n := 0) (k := 32) (kz := 32) eX11_endsPlace_86 rfl (by decide) (by decide) fX11_343 rfl rfl rfl ?_
    refine q_aload_n eX11_endsPlace_89 rfl ?_
    refine q_getf (c := 11) (n := 0) (k := 32) (v := .int (Int32.ofInt (s9.1 139 32 - 1))) eX11_endsPlace_90 rfl (by decide) (by decide) fX11_343 rfl ?_
    refine q_iz_ne (tgt := 98) (a := (s9.1 139 32 - 1)) eX11_endsPlace_93 (by decide) (ofz r10) (fun c93 => ?_) (fun c93 => ?_)
    · have h := h.1 c93
      refine q_bi (v := Int32.ofInt 40) eX11_endsPlace_98 rfl ?_
      refine q_aload_n eX11_endsPlace_100 rfl ?_
      refine q_getf (c := 11) (n := 0) (k := 29) (v := .int (Int32.ofInt (s9.1 139 29))) eX11_endsPlace_101 rfl (by decide) (by decide) fX11_324 rfl ?_
      refine z_imul eX11_endsPlace_104 ?_
      have r11 := h.1
      have h := h.2
      refine q_aload_n eX11_endsPlace_105 rfl ?_
      refine q_getR (c := 11) (n := 0) (k := 30) (a := 159) eX11_endsPlace_106 rfl (by decide) (by decide) fX11_73 rfl rfl ?_
      refine q_aload_n eX11_endsPlace_109 rfl ?_
      refine q_getf (c := 11) (n := 0) (k := 32) (v := .int (Int32.ofInt (s9.1 139 32 - 1))) eX11_endsPlace_110 rfl (by decide) (by decide) fX11_343 rfl ?_
      refine q_ic (v := Int32.ofInt 1) eX11_endsPlace_113 rfl ?_
      refine z_isub eX11_endsPlace_114 ?_
      have r12 := h.1
      have h := h.2
      have f13 := h.1
      have h := h.2
      refine z_iald (n := 22) eX11_endsPlace_115 rfl (ofz r12) f13 ?_
      refine q_topI (v := Int32.ofInt (s9.1 159 ((s9.1 139 32 - 1) - 1))) rfl ?_
      refine z_iadd eX11_endsPlace_116 ?_
      have r14 := h.1
      have h := h.2
      refine q_istore_n eX11_endsPlace_117 (Nat.le_of_ble_eq_true rfl) ?_
      refine q_aload_n eX11_endsPlace_118 rfl ?_
      refine q_getR (c := 11) (n := 0) (k := 21) (a := 152) eX11_endsPlace_119 rfl (by decide) (by decide) fX11_51 rfl rfl ?_
      refine q_ic (v := Int32.ofInt 3) eX11_endsPlace_122 rfl ?_
      refine q_iload_n eX11_endsPlace_123 rfl ?_
      refine z_imul eX11_endsPlace_124 ?_
      have r15 := h.1
      have h := h.2
      refine q_aload_n eX11_endsPlace_125 rfl ?_
      refine q_getR (c := 11) (n := 0) (k := 31) (a := 160) eX11_endsPlace_126 rfl (by decide) (by decide) fX11_76 rfl rfl ?_
      refine q_aload_n eX11_endsPlace_129 rfl ?_
      refine q_getf (c := 11) (n := 0) (k := 32) (v := .int (Int32.ofInt (s9.1 139 32 - 1))) eX11_endsPlace_130 rfl (by decide) (by decide) fX11_343 rfl ?_
      refine q_ic (v := Int32.ofInt 1) eX11_endsPlace_133 rfl ?_
      refine z_isub eX11_endsPlace_134 ?_
      refine z_iald (n := 22) eX11_endsPlace_135 rfl (ofz r12) f13 ?_
      refine q_topI (v := Int32.ofInt (s9.1 160 ((s9.1 139 32 - 1) - 1))) rfl ?_
      refine z_iadd eX11_endsPlace_136 ?_
      have r16 := h.1
      have h := h.2
      refine q_iload_n eX11_endsPlace_137 rfl ?_
      have f17 := h.1
      have h := h.2
      refine z_iast (n := 720) eX11_endsPlace_138 rfl (ofz r16) f17  ?_
      refine q_aload_n eX11_endsPlace_139 rfl ?_
      refine q_getR (c := 11) (n := 0) (k := 31) (a := 160) eX11_endsPlace_140 rfl (by decide) (by decide) fX11_76 rfl rfl ?_
      refine q_aload_n eX11_endsPlace_143 rfl ?_
      refine q_getf (c := 11) (n := 0) (k := 32) (v := .int (Int32.ofInt (s9.1 139 32 - 1))) eX11_endsPlace_144 rfl (by decide) (by decide) fX11_343 rfl ?_
      refine q_ic (v := Int32.ofInt 1) eX11_endsPlace_147 rfl ?_
      refine z_isub eX11_endsPlace_148 ?_
      refine q_dup2 eX11_endsPlace_149 rfl rfl ?_
      refine z_iald (n := 22) eX11_endsPlace_150 rfl (ofz r12) f13 ?_
      refine q_topI (v := Int32.ofInt (s9.1 160 ((s9.1 139 32 - 1) - 1))) rfl ?_
      refine q_ic (v := Int32.ofInt 1) eX11_endsPlace_151 rfl ?_
      refine z_iadd eX11_endsPlace_152 ?_
      have r18 := h.1
      have h := h.2
      refine z_iast (n := 22) eX11_endsPlace_153 rfl (ofz r12) f13  ?_
      refine q_aload_n eX11_endsPlace_154 rfl ?_
      refine q_getR (c := 11) (n := 0) (k := 15) (a := 146) eX11_endsPlace_155 rfl (by decide) (by decide) fX11_33 rfl rfl ?_
      refine q_iload_n eX11_endsPlace_158 rfl ?_
      have f19 := h.1
      have h := h.2
      refine z_iald (n := 240) eX11_endsPlace_159 rfl (ofz r14) f19 ?_
      refine q_topI (v := Int32.ofInt (s9.1 146 ((40 * s9.1 139 29) + s9.1 159 ((s9.1 139 32 - 1) - 1)))) rfl ?_
      refine q_ic (v := Int32.ofInt 4) eX11_endsPlace_160 rfl ?_
      refine q_cz_ne (tgt := 190) (a := s9.1 146 ((40 * s9.1 139 29) + s9.1 159 ((s9.1 139 32 - 1) - 1))) (b := 4) eX11_endsPlace_161 (by decide) (ofz (hA9 _ _)) (ofz (r32l rfl)) (fun c161 => ?_) (fun c161 => ?_)
      · have h := h.1 c161
        exact q_subL rfl (h.1 (ra_ui (ra_ui (ra_ui (ra_ui hA9 r9) r10) (hA _ _)) r18) r14)
      · have h := h.2 c161
        refine q_aload_n eX11_endsPlace_164 rfl ?_
        refine q_getR (c := 11) (n := 0) (k := 31) (a := 160) eX11_endsPlace_165 rfl (by decide) (by decide) fX11_76 rfl rfl ?_
        refine q_aload_n eX11_endsPlace_168 rfl ?_
        refine q_getf (c := 11) (n := 0) (k := 32) (v := .int (Int32.ofInt (s9.1 139 32 - 1))) eX11_endsPlace_169 rfl (by decide) (by decide) fX11_343 rfl ?_
        refine q_ic (v := Int32.ofInt 1) eX11_endsPlace_172 rfl ?_
        refine z_isub eX11_endsPlace_173 ?_
        refine z_iald (n := 22) eX11_endsPlace_174 rfl (ofz r12) f13 ?_
        refine q_topI (v := Int32.ofInt ((ui (ui (ui (ui s9 151 ((40 * s.1 139 29) + s.1 159 (s.1 139 32 - 1)) v9) 139 32 (s9.1 139 32 - 1)) 152 ((3 * ((40 * s9.1 139 29) + s9.1 159 ((s9.1 139 32 - 1) - 1))) + s9.1 160 ((s9.1 139 32 - 1) - 1)) (s.1 159 (s.1 139 32 - 1))) 160 ((s9.1 139 32 - 1) - 1) (s9.1 160 ((s9.1 139 32 - 1) - 1) + 1)).1 160 ((s9.1 139 32 - 1) - 1))) rfl ?_
        refine q_ic (v := Int32.ofInt 1) eX11_endsPlace_175 rfl ?_
        refine q_cz_ne (tgt := 190) (a := (ui (ui (ui (ui s9 151 ((40 * s.1 139 29) + s.1 159 (s.1 139 32 - 1)) v9) 139 32 (s9.1 139 32 - 1)) 152 ((3 * ((40 * s9.1 139 29) + s9.1 159 ((s9.1 139 32 - 1) - 1))) + s9.1 160 ((s9.1 139 32 - 1) - 1)) (s.1 159 (s.1 139 32 - 1))) 160 ((s9.1 139 32 - 1) - 1) (s9.1 160 ((s9.1 139 32 - 1) - 1) + 1)).1 160 ((s9.1 139 32 - 1) - 1)) (b := 1) eX11_endsPlace_176 (by decide) (ofz ((ra_ui (ra_ui (ra_ui (ra_ui hA9 r9) r10) (hA _ _)) r18) _ _)) (ofz (r32l rfl)) (fun c176 => ?_) (fun c176 => ?_)
        · have h := h.1 c176
          exact q_subL rfl (h.1 (ra_ui (ra_ui (ra_ui (ra_ui hA9 r9) r10) (hA _ _)) r18) r14)
        · have h := h.2 c176
          refine q_aload_n eX11_endsPlace_179 rfl ?_
          refine q_aload_n eX11_endsPlace_180 rfl ?_
          refine q_ldc2 (v := 26990) eX11_endsPlace_181 nX11_235 ?_
          refine q_V1 (ci := 11) (n := 0) eX11_endsPlace_184 DX11_isWord lX11_333 rfl (by decide) rfl rfl rfl rfl (p_X11_isWord (ra_ui (ra_ui (ra_ui (ra_ui hA9 r9) r10) (hA _ _)) r18)) ?_
          rintro _ _ ⟨b20, rfl, rfl⟩
          refine q_V1 (ci := 11) (n := 0) eX11_endsPlace_187 DX11_must lX11_339 rfl (by decide) rfl rfl rfl rfl (h.1 (ra_ui (ra_ui (ra_ui (ra_ui hA9 r9) r10) (hA _ _)) r18) (r01 b20)) ?_
          rintro _ _ ⟨s21, rfl, hA21, rfl, h⟩
          exact q_subL rfl (h.1 hA21 r14)
    · have h := h.2 c93
      refine q_ic (v := Int32.ofInt 0) eX11_endsPlace_96 rfl ?_
      exact q_zret eX11_endsPlace_97 rfl (z01 (Or.inl rfl)) ⟨_, _, rfl, (ra_ui (ra_ui hA9 r9) r10), (Or.inl rfl), rfl, h⟩
  · have h := h.2 c42
    refine q_ic (v := Int32.ofInt 1) eX11_endsPlace_45 rfl ?_
    exact q_zret eX11_endsPlace_46 rfl (z01 (Or.inr rfl)) ⟨_, _, rfl, hA, (Or.inr rfl), rfl, h⟩
theorem eX11_readE_0 : decode cX11_readE 0 = .ok (.aload_n 0, 1) := by decide +kernel
theorem eX11_readE_1 : decode cX11_readE 1 = .ok (.iconst 0, 1) := by decide +kernel
theorem eX11_readE_2 : decode cX11_readE 2 = .ok (.putfield 343, 3) := by decide +kernel
theorem eX11_readE_5 : decode cX11_readE 5 = .ok (.iconst 1, 1) := by decide +kernel
theorem eX11_readE_6 : decode cX11_readE 6 = .ok (.istore_n 1, 1) := by decide +kernel
theorem eX11_readE_7 : decode cX11_readE 7 = .ok (.aload_n 0, 1) := by decide +kernel
theorem eX11_readE_8 : decode cX11_readE 8 = .ok (.invokevirtual 308, 3) := by decide +kernel
theorem eX11_readE_11 : decode cX11_readE 11 = .ok (.ifCond .eq 33, 3) := by decide +kernel
theorem eX11_readE_14 : decode cX11_readE 14 = .ok (.iload_n 1, 1) := by decide +kernel
theorem eX11_readE_15 : decode cX11_readE 15 = .ok (.ifCond .ne 10, 3) := by decide +kernel
theorem eX11_readE_18 : decode cX11_readE 18 = .ok (.aload_n 0, 1) := by decide +kernel
theorem eX11_readE_19 : decode cX11_readE 19 = .ok (.getfield 343, 3) := by decide +kernel
theorem eX11_readE_22 : decode cX11_readE 22 = .ok (.ifCond .le 22, 3) := by decide +kernel
theorem eX11_readE_25 : decode cX11_readE 25 = .ok (.iload_n 1, 1) := by decide +kernel
theorem eX11_readE_26 : decode cX11_readE 26 = .ok (.ifCond .eq 10, 3) := by decide +kernel
theorem eX11_readE_29 : decode cX11_readE 29 = .ok (.aload_n 0, 1) := by decide +kernel
theorem eX11_readE_30 : decode cX11_readE 30 = .ok (.invokevirtual 346, 3) := by decide +kernel
theorem eX11_readE_33 : decode cX11_readE 33 = .ok (.goto 7, 3) := by decide +kernel
theorem eX11_readE_36 : decode cX11_readE 36 = .ok (.aload_n 0, 1) := by decide +kernel
theorem eX11_readE_37 : decode cX11_readE 37 = .ok (.invokevirtual 349, 3) := by decide +kernel
theorem eX11_readE_40 : decode cX11_readE 40 = .ok (.istore_n 1, 1) := by decide +kernel
theorem eX11_readE_41 : decode cX11_readE 41 = .ok (.goto (-34), 3) := by decide +kernel
theorem eX11_readE_44 : decode cX11_readE 44 = .ok (.return_, 1) := by decide +kernel
def C_X11_readE (s : ST) (Q : ST → Prop) : Prop := bx <| RA s → q_met mX11_readE (qs layM s) [.ref 139] (PV layM Q)
theorem C_X11_readE.mono {s : ST} {Q Q' : ST → Prop} (h : C_X11_readE s Q) (hq : ∀ s, Q s → Q' s) : C_X11_readE s Q' := ⟨fun hA => q_met.mono (h.1 hA) (fun _ _ => PV.mono hq), trivial⟩
def K_X11_readE_25 (s : ST) (a1 : Int) (Q : ST → Prop) : Prop := bx <| RA s → R32 a1 → q_K mX11_readE (qs layM s) 0 0 25 [(0, .ref 139), (1, .int (Int32.ofInt a1))] [] (q_fin mX11_readE (PV layM Q))
def K_X11_readE_7 (s : ST) (a1 : Int) (Q : ST → Prop) : Prop := bx <| RA s → R32 a1 → q_K mX11_readE (qs layM s) 0 0 7 [(0, .ref 139), (1, .int (Int32.ofInt a1))] [] (q_fin mX11_readE (PV layM Q))
set_option maxRecDepth 20000 in
theorem s_X11_readE_25 {s : ST} {a1 : Int} {Q : ST → Prop} (h : RA s → R32 a1 → ((a1 = 0 → (C_X11_endsPlace s (fun s1 v1 => (v1 = 0 ∨ v1 = 1) → K_X11_readE_7 s1 v1 Q))) ∧ (¬ a1 = 0 → (C_X11_beginsPlace s (fun s2 v2 => (v2 = 0 ∨ v2 = 1) → K_X11_readE_7 s2 v2 Q))))) : K_X11_readE_25 s a1 Q := by
  refine ⟨?_, trivial⟩
  intro hA hra1
  have h := h hA hra1
  refine q_iload_n eX11_readE_25 rfl ?_
  refine q_iz_eq (tgt := 36) (a := a1) eX11_readE_26 (by decide) (ofz hra1) (fun c26 => ?_) (fun c26 => ?_)
  · have h := h.1 c26
    refine q_aload_n eX11_readE_36 rfl ?_
    refine q_V0 (ci := 11) (n := 0) eX11_readE_37 DX11_endsPlace lX11_349 rfl (by decide) rfl rfl rfl rfl (h.1 hA) ?_
    rintro _ _ ⟨s1, v1, rfl, hA1, b1, rfl, h⟩
    have h := h b1
    refine q_istore_n eX11_readE_40 (Nat.le_of_ble_eq_true rfl) ?_
    refine q_goto (tgt := 7) eX11_readE_41 (by decide) ?_
    exact q_subL rfl (h.1 hA1 (r01 b1))
  · have h := h.2 c26
    refine q_aload_n eX11_readE_29 rfl ?_
    refine q_V0 (ci := 11) (n := 0) eX11_readE_30 DX11_beginsPlace lX11_346 rfl (by decide) rfl rfl rfl rfl (h.1 hA) ?_
    rintro _ _ ⟨s2, v2, rfl, hA2, b2, rfl, h⟩
    have h := h b2
    refine q_goto (tgt := 40) eX11_readE_33 (by decide) ?_
    refine q_istore_n eX11_readE_40 (Nat.le_of_ble_eq_true rfl) ?_
    refine q_goto (tgt := 7) eX11_readE_41 (by decide) ?_
    exact q_subL rfl (h.1 hA2 (r01 b2))
set_option maxRecDepth 20000 in
theorem s_X11_readE_7 {s : ST} {a1 : Int} {Q : ST → Prop} (h : RA s → R32 a1 → ((¬ (s.1 139 4 = 0) → Q s) ∧ ((s.1 139 4 = 0) → ((¬ a1 = 0 → K_X11_readE_25 s a1 Q) ∧ (a1 = 0 → ((s.1 139 32 ≤ 0 → Q s) ∧ (¬ s.1 139 32 ≤ 0 → K_X11_readE_25 s a1 Q))))))) : K_X11_readE_7 s a1 Q := by
  refine ⟨?_, trivial⟩
  intro hA hra1
  have h := h hA hra1
  refine q_aload_n eX11_readE_7 rfl ?_
  refine q_V0 (ci := 11) (n := 0) eX11_readE_8 DX11_isGood lX11_308 rfl (by decide) rfl rfl rfl rfl (p_X11_isGood hA) ?_
  rintro _ _ ⟨b1, rfl, rfl⟩
  refine q_iz_eq (tgt := 44) (a := (F_X11_isGood s)) eX11_readE_11 (by decide) (ofz (r01 b1)) (fun c11 => ?_) (fun c11 => ?_)
  · have h := h.1 (fun q => n_X11_isGood.mpr q c11)
    exact q_ret eX11_readE_44 rfl ⟨_, rfl, hA, rfl, h⟩
  · have h := h.2 (n_X11_isGood.mp c11)
    refine q_iload_n eX11_readE_14 rfl ?_
    refine q_iz_ne (tgt := 25) (a := a1) eX11_readE_15 (by decide) (ofz hra1) (fun c15 => ?_) (fun c15 => ?_)
    · have h := h.1 c15
      exact q_subL rfl (h.1 hA hra1)
    · have h := h.2 c15
      refine q_aload_n eX11_readE_18 rfl ?_
      refine q_getf (c := 11) (n := 0) (k := 32) (v := .int (Int32.ofInt (s.1 139 32))) eX11_readE_19 rfl (by decide) (by decide) fX11_343 rfl ?_
      refine q_iz_le (tgt := 44) (a := s.1 139 32) eX11_readE_22 (by decide) (ofz (hA _ _)) (fun c22 => ?_) (fun c22 => ?_)
      · have h := h.1 c22
        exact q_ret eX11_readE_44 rfl ⟨_, rfl, hA, rfl, h⟩
      · have h := h.2 c22
        exact q_subL rfl (h.1 hA hra1)
set_option maxRecDepth 20000 in
theorem s_X11_readE {s : ST} {Q : ST → Prop} (h : RA s → K_X11_readE_7 (ui s 139 32 0) 1 Q) : C_X11_readE s Q := by
  refine ⟨?_, trivial⟩
  intro hA
  have h := h hA
  refine q_enter (by decide) (Nat.le_of_ble_eq_true rfl) ?_
  refine q_aload_n eX11_readE_0 rfl ?_
  refine q_ic (v := Int32.ofInt 0) eX11_readE_1 rfl ?_
  refine z_putI (c := 11) (n := 0) (k := 32) (kz := 32) eX11_readE_2 rfl (by decide) (by decide) fX11_343 rfl rfl rfl ?_
  refine q_ic (v := Int32.ofInt 1) eX11_readE_5 rfl ?_
  refine q_istore_n eX11_readE_6 (Nat.le_of_ble_eq_true rfl) ?_
  exact q_subL rfl (h.1 (ra_ui hA (r32l rfl)) (r32l rfl))
theorem eX11_readDef_0 : decode cX11_readDef 0 = .ok (.aload_n 0, 1) := by decide +kernel
theorem eX11_readDef_1 : decode cX11_readDef 1 = .ok (.ldc2_w 225, 3) := by decide +kernel
theorem eX11_readDef_4 : decode cX11_readDef 4 = .ok (.invokevirtual 333, 3) := by decide +kernel
theorem eX11_readDef_7 : decode cX11_readDef 7 = .ok (.ifCond .eq 17, 3) := by decide +kernel
theorem eX11_readDef_10 : decode cX11_readDef 10 = .ok (.aload_n 0, 1) := by decide +kernel
theorem eX11_readDef_11 : decode cX11_readDef 11 = .ok (.getfield 24, 3) := by decide +kernel
theorem eX11_readDef_14 : decode cX11_readDef 14 = .ok (.aload_n 0, 1) := by decide +kernel
theorem eX11_readDef_15 : decode cX11_readDef 15 = .ok (.getfield 324, 3) := by decide +kernel
theorem eX11_readDef_18 : decode cX11_readDef 18 = .ok (.iaload, 1) := by decide +kernel
theorem eX11_readDef_19 : decode cX11_readDef 19 = .ok (.bipush 8, 2) := by decide +kernel
theorem eX11_readDef_21 : decode cX11_readDef 21 = .ok (.if_icmp .ne 7, 3) := by decide +kernel
theorem eX11_readDef_24 : decode cX11_readDef 24 = .ok (.aload_n 0, 1) := by decide +kernel
theorem eX11_readDef_25 : decode cX11_readDef 25 = .ok (.invokevirtual 315, 3) := by decide +kernel
theorem eX11_readDef_28 : decode cX11_readDef 28 = .ok (.aload_n 0, 1) := by decide +kernel
theorem eX11_readDef_29 : decode cX11_readDef 29 = .ok (.invokevirtual 308, 3) := by decide +kernel
theorem eX11_readDef_32 : decode cX11_readDef 32 = .ok (.ifCond .ne 4, 3) := by decide +kernel
theorem eX11_readDef_35 : decode cX11_readDef 35 = .ok (.return_, 1) := by decide +kernel
theorem eX11_readDef_36 : decode cX11_readDef 36 = .ok (.aload_n 0, 1) := by decide +kernel
theorem eX11_readDef_37 : decode cX11_readDef 37 = .ok (.invokevirtual 312, 3) := by decide +kernel
theorem eX11_readDef_40 : decode cX11_readDef 40 = .ok (.aload_n 0, 1) := by decide +kernel
theorem eX11_readDef_41 : decode cX11_readDef 41 = .ok (.getfield 283, 3) := by decide +kernel
theorem eX11_readDef_44 : decode cX11_readDef 44 = .ok (.iconst 2, 1) := by decide +kernel
theorem eX11_readDef_45 : decode cX11_readDef 45 = .ok (.if_icmp .eq 7, 3) := by decide +kernel
theorem eX11_readDef_48 : decode cX11_readDef 48 = .ok (.aload_n 0, 1) := by decide +kernel
theorem eX11_readDef_49 : decode cX11_readDef 49 = .ok (.invokevirtual 315, 3) := by decide +kernel
theorem eX11_readDef_52 : decode cX11_readDef 52 = .ok (.iconst 0, 1) := by decide +kernel
theorem eX11_readDef_53 : decode cX11_readDef 53 = .ok (.istore_n 1, 1) := by decide +kernel
theorem eX11_readDef_54 : decode cX11_readDef 54 = .ok (.iload_n 1, 1) := by decide +kernel
theorem eX11_readDef_55 : decode cX11_readDef 55 = .ok (.aload_n 0, 1) := by decide +kernel
theorem eX11_readDef_56 : decode cX11_readDef 56 = .ok (.getfield 24, 3) := by decide +kernel
theorem eX11_readDef_59 : decode cX11_readDef 59 = .ok (.aload_n 0, 1) := by decide +kernel
theorem eX11_readDef_60 : decode cX11_readDef 60 = .ok (.getfield 324, 3) := by decide +kernel
theorem eX11_readDef_63 : decode cX11_readDef 63 = .ok (.iaload, 1) := by decide +kernel
theorem eX11_readDef_64 : decode cX11_readDef 64 = .ok (.if_icmp .ge 47, 3) := by decide +kernel
theorem eX11_readDef_67 : decode cX11_readDef 67 = .ok (.aload_n 0, 1) := by decide +kernel
theorem eX11_readDef_68 : decode cX11_readDef 68 = .ok (.invokevirtual 308, 3) := by decide +kernel
theorem eX11_readDef_71 : decode cX11_readDef 71 = .ok (.ifCond .eq 34, 3) := by decide +kernel
theorem eX11_readDef_74 : decode cX11_readDef 74 = .ok (.aload_n 0, 1) := by decide +kernel
theorem eX11_readDef_75 : decode cX11_readDef 75 = .ok (.getfield 66, 3) := by decide +kernel
theorem eX11_readDef_78 : decode cX11_readDef 78 = .ok (.bipush 8, 2) := by decide +kernel
theorem eX11_readDef_80 : decode cX11_readDef 80 = .ok (.aload_n 0, 1) := by decide +kernel
theorem eX11_readDef_81 : decode cX11_readDef 81 = .ok (.getfield 324, 3) := by decide +kernel
theorem eX11_readDef_84 : decode cX11_readDef 84 = .ok (.imul, 1) := by decide +kernel
theorem eX11_readDef_85 : decode cX11_readDef 85 = .ok (.iload_n 1, 1) := by decide +kernel
theorem eX11_readDef_86 : decode cX11_readDef 86 = .ok (.iadd, 1) := by decide +kernel
theorem eX11_readDef_87 : decode cX11_readDef 87 = .ok (.laload, 1) := by decide +kernel
theorem eX11_readDef_88 : decode cX11_readDef 88 = .ok (.aload_n 0, 1) := by decide +kernel
theorem eX11_readDef_89 : decode cX11_readDef 89 = .ok (.getfield 290, 3) := by decide +kernel
theorem eX11_readDef_92 : decode cX11_readDef 92 = .ok (.lcmp, 1) := by decide +kernel
theorem eX11_readDef_93 : decode cX11_readDef 93 = .ok (.ifCond .ne 12, 3) := by decide +kernel
theorem eX11_readDef_96 : decode cX11_readDef 96 = .ok (.aload_n 0, 1) := by decide +kernel
theorem eX11_readDef_97 : decode cX11_readDef 97 = .ok (.iconst 3, 1) := by decide +kernel
theorem eX11_readDef_98 : decode cX11_readDef 98 = .ok (.aload_n 0, 1) := by decide +kernel
theorem eX11_readDef_99 : decode cX11_readDef 99 = .ok (.getfield 276, 3) := by decide +kernel
theorem eX11_readDef_102 : decode cX11_readDef 102 = .ok (.invokevirtual 304, 3) := by decide +kernel
theorem eX11_readDef_105 : decode cX11_readDef 105 = .ok (.iinc 1 1, 3) := by decide +kernel
theorem eX11_readDef_108 : decode cX11_readDef 108 = .ok (.goto (-54), 3) := by decide +kernel
theorem eX11_readDef_111 : decode cX11_readDef 111 = .ok (.aload_n 0, 1) := by decide +kernel
theorem eX11_readDef_112 : decode cX11_readDef 112 = .ok (.invokevirtual 308, 3) := by decide +kernel
theorem eX11_readDef_115 : decode cX11_readDef 115 = .ok (.ifCond .ne 4, 3) := by decide +kernel
theorem eX11_readDef_118 : decode cX11_readDef 118 = .ok (.return_, 1) := by decide +kernel
theorem eX11_readDef_119 : decode cX11_readDef 119 = .ok (.aload_n 0, 1) := by decide +kernel
theorem eX11_readDef_120 : decode cX11_readDef 120 = .ok (.getfield 290, 3) := by decide +kernel
theorem eX11_readDef_123 : decode cX11_readDef 123 = .ok (.lstore_n 1, 1) := by decide +kernel
theorem eX11_readDef_124 : decode cX11_readDef 124 = .ok (.aload_n 0, 1) := by decide +kernel
theorem eX11_readDef_125 : decode cX11_readDef 125 = .ok (.invokevirtual 312, 3) := by decide +kernel
theorem eX11_readDef_128 : decode cX11_readDef 128 = .ok (.aload_n 0, 1) := by decide +kernel
theorem eX11_readDef_129 : decode cX11_readDef 129 = .ok (.getfield 30, 3) := by decide +kernel
theorem eX11_readDef_132 : decode cX11_readDef 132 = .ok (.bipush 8, 2) := by decide +kernel
theorem eX11_readDef_134 : decode cX11_readDef 134 = .ok (.aload_n 0, 1) := by decide +kernel
theorem eX11_readDef_135 : decode cX11_readDef 135 = .ok (.getfield 324, 3) := by decide +kernel
theorem eX11_readDef_138 : decode cX11_readDef 138 = .ok (.imul, 1) := by decide +kernel
theorem eX11_readDef_139 : decode cX11_readDef 139 = .ok (.aload_n 0, 1) := by decide +kernel
theorem eX11_readDef_140 : decode cX11_readDef 140 = .ok (.getfield 24, 3) := by decide +kernel
theorem eX11_readDef_143 : decode cX11_readDef 143 = .ok (.aload_n 0, 1) := by decide +kernel
theorem eX11_readDef_144 : decode cX11_readDef 144 = .ok (.getfield 324, 3) := by decide +kernel
theorem eX11_readDef_147 : decode cX11_readDef 147 = .ok (.iaload, 1) := by decide +kernel
theorem eX11_readDef_148 : decode cX11_readDef 148 = .ok (.iadd, 1) := by decide +kernel
theorem eX11_readDef_149 : decode cX11_readDef 149 = .ok (.aload_n 0, 1) := by decide +kernel
theorem eX11_readDef_150 : decode cX11_readDef 150 = .ok (.getfield 20, 3) := by decide +kernel
theorem eX11_readDef_153 : decode cX11_readDef 153 = .ok (.aload_n 0, 1) := by decide +kernel
theorem eX11_readDef_154 : decode cX11_readDef 154 = .ok (.getfield 324, 3) := by decide +kernel
theorem eX11_readDef_157 : decode cX11_readDef 157 = .ok (.iaload, 1) := by decide +kernel
theorem eX11_readDef_158 : decode cX11_readDef 158 = .ok (.iastore, 1) := by decide +kernel
theorem eX11_readDef_159 : decode cX11_readDef 159 = .ok (.aload_n 0, 1) := by decide +kernel
theorem eX11_readDef_160 : decode cX11_readDef 160 = .ok (.invokevirtual 336, 3) := by decide +kernel
theorem eX11_readDef_163 : decode cX11_readDef 163 = .ok (.aload_n 0, 1) := by decide +kernel
theorem eX11_readDef_164 : decode cX11_readDef 164 = .ok (.aload_n 0, 1) := by decide +kernel
theorem eX11_readDef_165 : decode cX11_readDef 165 = .ok (.getfield 283, 3) := by decide +kernel
theorem eX11_readDef_168 : decode cX11_readDef 168 = .ok (.iconst 5, 1) := by decide +kernel
theorem eX11_readDef_169 : decode cX11_readDef 169 = .ok (.if_icmp .ne 7, 3) := by decide +kernel
theorem eX11_readDef_172 : decode cX11_readDef 172 = .ok (.iconst 1, 1) := by decide +kernel
theorem eX11_readDef_173 : decode cX11_readDef 173 = .ok (.goto 4, 3) := by decide +kernel
theorem eX11_readDef_176 : decode cX11_readDef 176 = .ok (.iconst 0, 1) := by decide +kernel
theorem eX11_readDef_177 : decode cX11_readDef 177 = .ok (.invokevirtual 339, 3) := by decide +kernel
theorem eX11_readDef_180 : decode cX11_readDef 180 = .ok (.aload_n 0, 1) := by decide +kernel
theorem eX11_readDef_181 : decode cX11_readDef 181 = .ok (.getfield 66, 3) := by decide +kernel
theorem eX11_readDef_184 : decode cX11_readDef 184 = .ok (.bipush 8, 2) := by decide +kernel
theorem eX11_readDef_186 : decode cX11_readDef 186 = .ok (.aload_n 0, 1) := by decide +kernel
theorem eX11_readDef_187 : decode cX11_readDef 187 = .ok (.getfield 324, 3) := by decide +kernel
theorem eX11_readDef_190 : decode cX11_readDef 190 = .ok (.imul, 1) := by decide +kernel
theorem eX11_readDef_191 : decode cX11_readDef 191 = .ok (.aload_n 0, 1) := by decide +kernel
theorem eX11_readDef_192 : decode cX11_readDef 192 = .ok (.getfield 24, 3) := by decide +kernel
theorem eX11_readDef_195 : decode cX11_readDef 195 = .ok (.aload_n 0, 1) := by decide +kernel
theorem eX11_readDef_196 : decode cX11_readDef 196 = .ok (.getfield 324, 3) := by decide +kernel
theorem eX11_readDef_199 : decode cX11_readDef 199 = .ok (.iaload, 1) := by decide +kernel
theorem eX11_readDef_200 : decode cX11_readDef 200 = .ok (.iadd, 1) := by decide +kernel
theorem eX11_readDef_201 : decode cX11_readDef 201 = .ok (.lload_n 1, 1) := by decide +kernel
theorem eX11_readDef_202 : decode cX11_readDef 202 = .ok (.lastore, 1) := by decide +kernel
theorem eX11_readDef_203 : decode cX11_readDef 203 = .ok (.aload_n 0, 1) := by decide +kernel
theorem eX11_readDef_204 : decode cX11_readDef 204 = .ok (.getfield 24, 3) := by decide +kernel
theorem eX11_readDef_207 : decode cX11_readDef 207 = .ok (.aload_n 0, 1) := by decide +kernel
theorem eX11_readDef_208 : decode cX11_readDef 208 = .ok (.getfield 324, 3) := by decide +kernel
theorem eX11_readDef_211 : decode cX11_readDef 211 = .ok (.dup2, 1) := by decide +kernel
theorem eX11_readDef_212 : decode cX11_readDef 212 = .ok (.iaload, 1) := by decide +kernel
theorem eX11_readDef_213 : decode cX11_readDef 213 = .ok (.iconst 1, 1) := by decide +kernel
theorem eX11_readDef_214 : decode cX11_readDef 214 = .ok (.iadd, 1) := by decide +kernel
theorem eX11_readDef_215 : decode cX11_readDef 215 = .ok (.iastore, 1) := by decide +kernel
theorem eX11_readDef_216 : decode cX11_readDef 216 = .ok (.return_, 1) := by decide +kernel
def C_X11_readDef (s : ST) (Q : ST → Prop) : Prop := bx <| RA s → q_met mX11_readDef (qs layM s) [.ref 139] (PV layM Q)
theorem C_X11_readDef.mono {s : ST} {Q Q' : ST → Prop} (h : C_X11_readDef s Q) (hq : ∀ s, Q s → Q' s) : C_X11_readDef s Q' := ⟨fun hA => q_met.mono (h.1 hA) (fun _ _ => PV.mono hq), trivial⟩
def K_X11_readDef_177 (s : ST) (a1 : Int64) (t1 : Int) (Q : ST → Prop) : Prop := bx <| RA s → R32 t1 → q_K mX11_readDef (qs layM s) 0 0 177 [(0, .ref 139), (1, .long a1)] [.int (Int32.ofInt t1), .ref 139] (q_fin mX11_readDef (PV layM Q))
def K_X11_readDef_54 (s : ST) (a1 : Int) (Q : ST → Prop) : Prop := bx <| RA s → R32 a1 → q_K mX11_readDef (qs layM s) 0 0 54 [(0, .ref 139), (1, .int (Int32.ofInt a1))] [] (q_fin mX11_readDef (PV layM Q))
def K_X11_readDef_28 (s : ST) (Q : ST → Prop) : Prop := bx <| RA s → q_K mX11_readDef (qs layM s) 0 0 28 [(0, .ref 139)] [] (q_fin mX11_readDef (PV layM Q))
def K_X11_readDef_24 (s : ST) (Q : ST → Prop) : Prop := bx <| RA s → q_K mX11_readDef (qs layM s) 0 0 24 [(0, .ref 139)] [] (q_fin mX11_readDef (PV layM Q))
set_option maxRecDepth 20000 in
theorem s_X11_readDef_177 {s : ST} {a1 : Int64} {t1 : Int} {Q : ST → Prop} (h : RA s → R32 t1 → (C_X11_must s t1 (fun s1 => (R32 (8 * s1.1 139 29) ∧ (((0 : Int) ≤ s1.1 139 29 ∧ s1.1 139 29 < 6) ∧ (R32 ((8 * s1.1 139 29) + s1.1 143 (s1.1 139 29)) ∧ (((0 : Int) ≤ ((8 * s1.1 139 29) + s1.1 143 (s1.1 139 29)) ∧ ((8 * s1.1 139 29) + s1.1 143 (s1.1 139 29)) < 48) ∧ (R32 (s1.1 143 (s1.1 139 29) + 1) ∧ Q (ui (uj s1 157 ((8 * s1.1 139 29) + s1.1 143 (s1.1 139 29)) a1) 143 (s1.1 139 29) (s1.1 143 (s1.1 139 29) + 1)))))))))) : K_X11_readDef_177 s a1 t1 Q := by
  refine ⟨?_, trivial⟩
  intro hA hrt1
  have h := h hA hrt1
  refine q_V1 (ci := 11) (n := 0) eX11_readDef_177 DX11_must lX11_339 rfl (by decide) rfl rfl rfl rfl (h.1 hA hrt1) ?_
  rintro _ _ ⟨s1, rfl, hA1, rfl, h⟩
  refine q_aload_n eX11_readDef_180 rfl ?_
  refine q_getR (c := 11) (n := 0) (k := 26) (a := 157) eX11_readDef_181 rfl (by decide) (by decide) fX11_66 rfl rfl ?_
  refine q_bi (v := Int32.ofInt 8) eX11_readDef_184 rfl ?_
  refine q_aload_n eX11_readDef_186 rfl ?_
  refine q_getf (c := 11) (n := 0) (k := 29) (v := .int (Int32.ofInt (s1.1 139 29))) eX11_readDef_187 rfl (by decide) (by decide) fX11_324 rfl ?_
  refine z_imul eX11_readDef_190 ?_
  have r2 := h.1
  have h := h.2
  refine q_aload_n eX11_readDef_191 rfl ?_
  refine q_getR (c := 11) (n := 0) (k := 12) (a := 143) eX11_readDef_192 rfl (by decide) (by decide) fX11_24 rfl rfl ?_
  refine q_aload_n eX11_readDef_195 rfl ?_
  refine q_getf (c := 11) (n := 0) (k := 29) (v := .int (Int32.ofInt (s1.1 139 29))) eX11_readDef_196 rfl (by decide) (by decide) fX11_324 rfl ?_
  have f3 := h.1
  have h := h.2
  refine z_iald (n := 6) eX11_readDef_199 rfl (ofz (hA1 _ _)) f3 ?_
  refine q_topI (v := Int32.ofInt (s1.1 143 (s1.1 139 29))) rfl ?_
  refine z_iadd eX11_readDef_200 ?_
  have r4 := h.1
  have h := h.2
  refine q_lload_n eX11_readDef_201 rfl ?_
  have f5 := h.1
  have h := h.2
  refine z_last (n := 48) eX11_readDef_202 rfl (ofz r4) f5  ?_
  refine q_aload_n eX11_readDef_203 rfl ?_
  refine q_getR (c := 11) (n := 0) (k := 12) (a := 143) eX11_readDef_204 rfl (by decide) (by decide) fX11_24 rfl rfl ?_
  refine q_aload_n eX11_readDef_207 rfl ?_
  refine q_getf (c := 11) (n := 0) (k := 29) (v := .int (Int32.ofInt (s1.1 139 29))) eX11_readDef_208 rfl (by decide) (by decide) fX11_324 rfl ?_
  refine q_dup2 eX11_readDef_211 rfl rfl ?_
  refine z_iald (n := 6) eX11_readDef_212 rfl (ofz (hA1 _ _)) f3 ?_
  refine q_topI (v := Int32.ofInt (s1.1 143 (s1.1 139 29))) rfl ?_
  refine q_ic (v := Int32.ofInt 1) eX11_readDef_213 rfl ?_
  refine z_iadd eX11_readDef_214 ?_
  have r6 := h.1
  have h := h.2
  refine z_iast (n := 6) eX11_readDef_215 rfl (ofz (hA1 _ _)) f3  ?_
  exact q_ret eX11_readDef_216 rfl ⟨_, rfl, (ra_ui (ra_uj hA1) r6), rfl, h⟩
set_option maxRecDepth 20000 in
theorem s_X11_readDef_54 {s : ST} {a1 : Int} {Q : ST → Prop} (h : RA s → R32 a1 → (((0 : Int) ≤ s.1 139 29 ∧ s.1 139 29 < 6) ∧ ((s.1 143 (s.1 139 29) ≤ a1 → (((s.1 139 4 = 0) → (C_X11_goOn s (fun s3 => (R32 (8 * s3.1 139 29) ∧ (((0 : Int) ≤ s3.1 139 29 ∧ s3.1 139 29 < 6) ∧ (R32 ((8 * s3.1 139 29) + s3.1 143 (s3.1 139 29)) ∧ (((0 : Int) ≤ ((8 * s3.1 139 29) + s3.1 143 (s3.1 139 29)) ∧ ((8 * s3.1 139 29) + s3.1 143 (s3.1 139 29)) < 48) ∧ (C_X11_readE (ui s3 145 ((8 * s3.1 139 29) + s3.1 143 (s3.1 139 29)) (s3.1 142 (s3.1 139 29))) (fun s8 => ((¬ s8.1 139 8 = 5 → K_X11_readDef_177 s8 (s.2 139 10) 0 Q) ∧ (s8.1 139 8 = 5 → K_X11_readDef_177 s8 (s.2 139 10) 1 Q))))))))))) ∧ (¬ (s.1 139 4 = 0) → Q s))) ∧ (¬ s.1 143 (s.1 139 29) ≤ a1 → ((¬ (s.1 139 4 = 0) → (R32 (a1 + 1) ∧ K_X11_readDef_54 s (a1 + 1) Q)) ∧ ((s.1 139 4 = 0) → (R32 (8 * s.1 139 29) ∧ (R32 ((8 * s.1 139 29) + a1) ∧ (((0 : Int) ≤ ((8 * s.1 139 29) + a1) ∧ ((8 * s.1 139 29) + a1) < 48) ∧ ((¬ (s.2 157 ((8 * s.1 139 29) + a1)) = (s.2 139 10) → (R32 (a1 + 1) ∧ K_X11_readDef_54 s (a1 + 1) Q)) ∧ ((s.2 157 ((8 * s.1 139 29) + a1)) = (s.2 139 10) → (C_X11_fails s 3 (s.1 139 6) (fun s15 => (R32 (a1 + 1) ∧ K_X11_readDef_54 s15 (a1 + 1) Q)))))))))))))) : K_X11_readDef_54 s a1 Q := by
  refine ⟨?_, trivial⟩
  intro hA hra1
  have h := h hA hra1
  refine q_iload_n eX11_readDef_54 rfl ?_
  refine q_aload_n eX11_readDef_55 rfl ?_
  refine q_getR (c := 11) (n := 0) (k := 12) (a := 143) eX11_readDef_56 rfl (by decide) (by decide) fX11_24 rfl rfl ?_
  refine q_aload_n eX11_readDef_59 rfl ?_
  refine q_getf (c := 11) (n := 0) (k := 29) (v := .int (Int32.ofInt (s.1 139 29))) eX11_readDef_60 rfl (by decide) (by decide) fX11_324 rfl ?_
  have f1 := h.1
  have h := h.2
  refine z_iald (n := 6) eX11_readDef_63 rfl (ofz (hA _ _)) f1 ?_
  refine q_topI (v := Int32.ofInt (s.1 143 (s.1 139 29))) rfl ?_
  refine q_cz_ge (tgt := 111) (a := a1) (b := s.1 143 (s.1 139 29)) eX11_readDef_64 (by decide) (ofz hra1) (ofz (hA _ _)) (fun c64 => ?_) (fun c64 => ?_)
  · have h := h.1 c64
    refine q_aload_n eX11_readDef_111 rfl ?_
    refine q_V0 (ci := 11) (n := 0) eX11_readDef_112 DX11_isGood lX11_308 rfl (by decide) rfl rfl rfl rfl (p_X11_isGood hA) ?_
    rintro _ _ ⟨b2, rfl, rfl⟩
    refine q_iz_ne (tgt := 119) (a := (F_X11_isGood s)) eX11_readDef_115 (by decide) (ofz (r01 b2)) (fun c115 => ?_) (fun c115 => ?_)
    · have h := h.1 (n_X11_isGood.mp c115)
      refine q_aload_n eX11_readDef_119 rfl ?_
      refine q_getf (c := 11) (n := 0) (k := 10) (v := .long (s.2 139 10)) eX11_readDef_120 rfl (by decide) (by decide) fX11_290 rfl ?_
      refine q_lstore_n eX11_readDef_123 (Nat.le_of_ble_eq_true rfl) ?_
      refine q_aload_n eX11_readDef_124 rfl ?_
      refine q_V0 (ci := 11) (n := 0) eX11_readDef_125 DX11_goOn lX11_312 rfl (by decide) rfl rfl rfl rfl (h.1 hA) ?_
      rintro _ _ ⟨s3, rfl, hA3, rfl, h⟩
      refine q_aload_n eX11_readDef_128 rfl ?_
      refine q_getR (c := 11) (n := 0) (k := 14) (a := 145) eX11_readDef_129 rfl (by decide) (by decide) fX11_30 rfl rfl ?_
      refine q_bi (v := Int32.ofInt 8) eX11_readDef_132 rfl ?_
      refine q_aload_n eX11_readDef_134 rfl ?_
      refine q_getf (c := 11) (n := 0) (k := 29) (v := .int (Int32.ofInt (s3.1 139 29))) eX11_readDef_135 rfl (by decide) (by decide) fX11_324 rfl ?_
      refine z_imul eX11_readDef_138 ?_
      have r4 := h.1
      have h := h.2
      refine q_aload_n eX11_readDef_139 rfl ?_
      refine q_getR (c := 11) (n := 0) (k := 12) (a := 143) eX11_readDef_140 rfl (by decide) (by decide) fX11_24 rfl rfl ?_
      refine q_aload_n eX11_readDef_143 rfl ?_
      refine q_getf (c := 11) (n := 0) (k := 29) (v := .int (Int32.ofInt (s3.1 139 29))) eX11_readDef_144 rfl (by decide) (by decide) fX11_324 rfl ?_
      have f5 := h.1
      have h := h.2
      refine z_iald (n := 6) eX11_readDef_147 rfl (ofz (hA3 _ _)) f5 ?_
      refine q_topI (v := Int32.ofInt (s3.1 143 (s3.1 139 29))) rfl ?_
      refine z_iadd eX11_readDef_148 ?_
      have r6 := h.1
      have h := h.2
      refine q_aload_n eX11_readDef_149 rfl ?_
      refine q_getR (c := 11) (n := 0) (k := 11) (a := 142) eX11_readDef_150 rfl (by decide) (by decide) fX11_20 rfl rfl ?_
      refine q_aload_n eX11_readDef_153 rfl ?_
      refine q_getf (c := 11) (n := 0) (k := 29) (v := .int (Int32.ofInt (s3.1 139 29))) eX11_readDef_154 rfl (by decide) (by decide) fX11_324 rfl ?_
      refine z_iald (n := 6) eX11_readDef_157 rfl (ofz (hA3 _ _)) f5 ?_
      refine q_topI (v := Int32.ofInt (s3.1 142 (s3.1 139 29))) rfl ?_
      have f7 := h.1
      have h := h.2
      refine z_iast (n := 48) eX11_readDef_158 rfl (ofz r6) f7  ?_
      refine q_aload_n eX11_readDef_159 rfl ?_
      refine q_V0 (ci := 11) (n := 0) eX11_readDef_160 DX11_readE lX11_336 rfl (by decide) rfl rfl rfl rfl (h.1 (ra_ui hA3 (hA3 _ _))) ?_
      rintro _ _ ⟨s8, rfl, hA8, rfl, h⟩
      refine q_aload_n eX11_readDef_163 rfl ?_
      refine q_aload_n eX11_readDef_164 rfl ?_
      refine q_getf (c := 11) (n := 0) (k := 8) (v := .int (Int32.ofInt (s8.1 139 8))) eX11_readDef_165 rfl (by decide) (by decide) fX11_283 rfl ?_
      refine q_ic (v := Int32.ofInt 5) eX11_readDef_168 rfl ?_
      refine q_cz_ne (tgt := 176) (a := s8.1 139 8) (b := 5) eX11_readDef_169 (by decide) (ofz (hA8 _ _)) (ofz (r32l rfl)) (fun c169 => ?_) (fun c169 => ?_)
      · have h := h.1 c169
        refine q_ic (v := Int32.ofInt 0) eX11_readDef_176 rfl ?_
        exact q_subL rfl (h.1 hA8 (r32l rfl))
      · have h := h.2 c169
        refine q_ic (v := Int32.ofInt 1) eX11_readDef_172 rfl ?_
        refine q_goto (tgt := 177) eX11_readDef_173 (by decide) ?_
        exact q_subL rfl (h.1 hA8 (r32l rfl))
    · have h := h.2 (fun q => n_X11_isGood.mpr q c115)
      exact q_ret eX11_readDef_118 rfl ⟨_, rfl, hA, rfl, h⟩
  · have h := h.2 c64
    refine q_aload_n eX11_readDef_67 rfl ?_
    refine q_V0 (ci := 11) (n := 0) eX11_readDef_68 DX11_isGood lX11_308 rfl (by decide) rfl rfl rfl rfl (p_X11_isGood hA) ?_
    rintro _ _ ⟨b9, rfl, rfl⟩
    refine q_iz_eq (tgt := 105) (a := (F_X11_isGood s)) eX11_readDef_71 (by decide) (ofz (r01 b9)) (fun c71 => ?_) (fun c71 => ?_)
    · have h := h.1 (fun q => n_X11_isGood.mpr q c71)
      have r10 := h.1
      have h := h.2
      refine z_inc (m := 1) eX11_readDef_105 rfl (Nat.le_of_ble_eq_true rfl) rfl ?_
      refine q_goto (tgt := 54) eX11_readDef_108 (by decide) ?_
      exact q_subL rfl (h.1 hA r10)
    · have h := h.2 (n_X11_isGood.mp c71)
      refine q_aload_n eX11_readDef_74 rfl ?_
      refine q_getR (c := 11) (n := 0) (k := 26) (a := 157) eX11_readDef_75 rfl (by decide) (by decide) fX11_66 rfl rfl ?_
      refine q_bi (v := Int32.ofInt 8) eX11_readDef_78 rfl ?_
      refine q_aload_n eX11_readDef_80 rfl ?_
      refine q_getf (c := 11) (n := 0) (k := 29) (v := .int (Int32.ofInt (s.1 139 29))) eX11_readDef_81 rfl (by decide) (by decide) fX11_324 rfl ?_
      refine z_imul eX11_readDef_84 ?_
      have r11 := h.1
      have h := h.2
      refine q_iload_n eX11_readDef_85 rfl ?_
      refine z_iadd eX11_readDef_86 ?_
      have r12 := h.1
      have h := h.2
      have f13 := h.1
      have h := h.2
      refine z_lald (n := 48) eX11_readDef_87 rfl (ofz r12) f13 ?_
      refine q_topL (v := s.2 157 ((8 * s.1 139 29) + a1)) rfl ?_
      refine q_aload_n eX11_readDef_88 rfl ?_
      refine q_getf (c := 11) (n := 0) (k := 10) (v := .long (s.2 139 10)) eX11_readDef_89 rfl (by decide) (by decide) fX11_290 rfl ?_
      refine q_lcmp eX11_readDef_92 ?_
      refine z_lc_ne (tgt := 105) eX11_readDef_93 (by decide) (fun c93 => ?_) (fun c93 => ?_)
      · have h := h.1 c93
        have r14 := h.1
        have h := h.2
        refine z_inc (m := 1) eX11_readDef_105 rfl (Nat.le_of_ble_eq_true rfl) rfl ?_
        refine q_goto (tgt := 54) eX11_readDef_108 (by decide) ?_
        exact q_subL rfl (h.1 hA r14)
      · have h := h.2 c93
        refine q_aload_n eX11_readDef_96 rfl ?_
        refine q_ic (v := Int32.ofInt 3) eX11_readDef_97 rfl ?_
        refine q_aload_n eX11_readDef_98 rfl ?_
        refine q_getf (c := 11) (n := 0) (k := 6) (v := .int (Int32.ofInt (s.1 139 6))) eX11_readDef_99 rfl (by decide) (by decide) fX11_276 rfl ?_
        refine q_V2 (ci := 11) (n := 0) eX11_readDef_102 DX11_fails lX11_304 rfl (by decide) rfl rfl rfl rfl (h.1 hA (r32l rfl) (hA _ _)) ?_
        rintro _ _ ⟨s15, rfl, hA15, rfl, h⟩
        have r16 := h.1
        have h := h.2
        refine z_inc (m := 1) eX11_readDef_105 rfl (Nat.le_of_ble_eq_true rfl) rfl ?_
        refine q_goto (tgt := 54) eX11_readDef_108 (by decide) ?_
        exact q_subL rfl (h.1 hA15 r16)
set_option maxRecDepth 20000 in
theorem s_X11_readDef_28 {s : ST} {Q : ST → Prop} (h : RA s → (((s.1 139 4 = 0) → (C_X11_goOn s (fun s2 => ((s2.1 139 8 = 2 → K_X11_readDef_54 s2 0 Q) ∧ (¬ s2.1 139 8 = 2 → (C_X11_misplaced s2 (fun s3 => K_X11_readDef_54 s3 0 Q))))))) ∧ (¬ (s.1 139 4 = 0) → Q s))) : K_X11_readDef_28 s Q := by
  refine ⟨?_, trivial⟩
  intro hA
  have h := h hA
  refine q_aload_n eX11_readDef_28 rfl ?_
  refine q_V0 (ci := 11) (n := 0) eX11_readDef_29 DX11_isGood lX11_308 rfl (by decide) rfl rfl rfl rfl (p_X11_isGood hA) ?_
  rintro _ _ ⟨b1, rfl, rfl⟩
  refine q_iz_ne (tgt := 36) (a := (F_X11_isGood s)) eX11_readDef_32 (by decide) (ofz (r01 b1)) (fun c32 => ?_) (fun c32 => ?_)
  · have h := h.1 (n_X11_isGood.mp c32)
    refine q_aload_n eX11_readDef_36 rfl ?_
    refine q_V0 (ci := 11) (n := 0) eX11_readDef_37 DX11_goOn lX11_312 rfl (by decide) rfl rfl rfl rfl (h.1 hA) ?_
    rintro _ _ ⟨s2, rfl, hA2, rfl, h⟩
    refine q_aload_n eX11_readDef_40 rfl ?_
    refine q_getf (c := 11) (n := 0) (k := 8) (v := .int (Int32.ofInt (s2.1 139 8))) eX11_readDef_41 rfl (by decide) (by decide) fX11_283 rfl ?_
    refine q_ic (v := Int32.ofInt 2) eX11_readDef_44 rfl ?_
    refine q_cz_eq (tgt := 52) (a := s2.1 139 8) (b := 2) eX11_readDef_45 (by decide) (ofz (hA2 _ _)) (ofz (r32l rfl)) (fun c45 => ?_) (fun c45 => ?_)
    · have h := h.1 c45
      refine q_ic (v := Int32.ofInt 0) eX11_readDef_52 rfl ?_
      refine q_istore_n eX11_readDef_53 (Nat.le_of_ble_eq_true rfl) ?_
      exact q_subL rfl (h.1 hA2 (r32l rfl))
    · have h := h.2 c45
      refine q_aload_n eX11_readDef_48 rfl ?_
      refine q_V0 (ci := 11) (n := 0) eX11_readDef_49 DX11_misplaced lX11_315 rfl (by decide) rfl rfl rfl rfl (h.1 hA2) ?_
      rintro _ _ ⟨s3, rfl, hA3, rfl, h⟩
      refine q_ic (v := Int32.ofInt 0) eX11_readDef_52 rfl ?_
      refine q_istore_n eX11_readDef_53 (Nat.le_of_ble_eq_true rfl) ?_
      exact q_subL rfl (h.1 hA3 (r32l rfl))
  · have h := h.2 (fun q => n_X11_isGood.mpr q c32)
    exact q_ret eX11_readDef_35 rfl ⟨_, rfl, hA, rfl, h⟩
set_option maxRecDepth 20000 in
theorem s_X11_readDef_24 {s : ST} {Q : ST → Prop} (h : RA s → (C_X11_misplaced s (fun s1 => K_X11_readDef_28 s1 Q))) : K_X11_readDef_24 s Q := by
  refine ⟨?_, trivial⟩
  intro hA
  have h := h hA
  refine q_aload_n eX11_readDef_24 rfl ?_
  refine q_V0 (ci := 11) (n := 0) eX11_readDef_25 DX11_misplaced lX11_315 rfl (by decide) rfl rfl rfl rfl (h.1 hA) ?_
  rintro _ _ ⟨s1, rfl, hA1, rfl, h⟩
  exact q_subL rfl (h.1 hA1)
set_option maxRecDepth 20000 in
theorem s_X11_readDef {s : ST} {Q : ST → Prop} (h : RA s → ((¬ (s.1 139 8 = 3 ∧ (s.2 139 10) = 6579558) → K_X11_readDef_24 s Q) ∧ ((s.1 139 8 = 3 ∧ (s.2 139 10) = 6579558) → (((0 : Int) ≤ s.1 139 29 ∧ s.1 139 29 < 6) ∧ ((¬ s.1 143 (s.1 139 29) = 8 → K_X11_readDef_28 s Q) ∧ (s.1 143 (s.1 139 29) = 8 → K_X11_readDef_24 s Q)))))) : C_X11_readDef s Q := by
  refine ⟨?_, trivial⟩
  intro hA
  have h := h hA
  refine q_enter (by decide) (Nat.le_of_ble_eq_true rfl) ?_
  refine q_aload_n eX11_readDef_0 rfl ?_
  refine q_ldc2 (v := 6579558) eX11_readDef_1 nX11_225 ?_
  refine q_V1 (ci := 11) (n := 0) eX11_readDef_4 DX11_isWord lX11_333 rfl (by decide) rfl rfl rfl rfl (p_X11_isWord hA) ?_
  rintro _ _ ⟨b1, rfl, rfl⟩
  refine q_iz_eq (tgt := 24) (a := (F_X11_isWord s 6579558)) eX11_readDef_7 (by decide) (ofz (r01 b1)) (fun c7 => ?_) (fun c7 => ?_)
  · have h := h.1 (fun q => n_X11_isWord.mpr q c7)
    exact q_subL rfl (h.1 hA)
  · have h := h.2 (n_X11_isWord.mp c7)
    refine q_aload_n eX11_readDef_10 rfl ?_
    refine q_getR (c := 11) (n := 0) (k := 12) (a := 143) eX11_readDef_11 rfl (by decide) (by decide) fX11_24 rfl rfl ?_
    refine q_aload_n eX11_readDef_14 rfl ?_
    refine q_getf (c := 11) (n := 0) (k := 29) (v := .int (Int32.ofInt (s.1 139 29))) eX11_readDef_15 rfl (by decide) (by decide) fX11_324 rfl ?_
    have f2 := h.1
    have h := h.2
    refine z_iald (n := 6) eX11_readDef_18 rfl (ofz (hA _ _)) f2 ?_
    refine q_topI (v := Int32.ofInt (s.1 143 (s.1 139 29))) rfl ?_
    refine q_bi (v := Int32.ofInt 8) eX11_readDef_19 rfl ?_
    refine q_cz_ne (tgt := 28) (a := s.1 143 (s.1 139 29)) (b := 8) eX11_readDef_21 (by decide) (ofz (hA _ _)) (ofz (r32l rfl)) (fun c21 => ?_) (fun c21 => ?_)
    · have h := h.1 c21
      exact q_subL rfl (h.1 hA)
    · have h := h.2 c21
      exact q_subL rfl (h.1 hA)
theorem eX11_asksOf_0 : decode cX11_asksOf 0 = .ok (.iconst 0, 1) := by decide +kernel
theorem eX11_asksOf_1 : decode cX11_asksOf 1 = .ok (.istore_n 2, 1) := by decide +kernel
theorem eX11_asksOf_2 : decode cX11_asksOf 2 = .ok (.iconst 0, 1) := by decide +kernel
theorem eX11_asksOf_3 : decode cX11_asksOf 3 = .ok (.istore_n 3, 1) := by decide +kernel
theorem eX11_asksOf_4 : decode cX11_asksOf 4 = .ok (.iload_n 3, 1) := by decide +kernel
theorem eX11_asksOf_5 : decode cX11_asksOf 5 = .ok (.aload_n 0, 1) := by decide +kernel
theorem eX11_asksOf_6 : decode cX11_asksOf 6 = .ok (.getfield 24, 3) := by decide +kernel
theorem eX11_asksOf_9 : decode cX11_asksOf 9 = .ok (.iload_n 1, 1) := by decide +kernel
theorem eX11_asksOf_10 : decode cX11_asksOf 10 = .ok (.iaload, 1) := by decide +kernel
theorem eX11_asksOf_11 : decode cX11_asksOf 11 = .ok (.if_icmp .ge 33, 3) := by decide +kernel
theorem eX11_asksOf_14 : decode cX11_asksOf 14 = .ok (.iload_n 2, 1) := by decide +kernel
theorem eX11_asksOf_15 : decode cX11_asksOf 15 = .ok (.aload_n 0, 1) := by decide +kernel
theorem eX11_asksOf_16 : decode cX11_asksOf 16 = .ok (.getfield 48, 3) := by decide +kernel
theorem eX11_asksOf_19 : decode cX11_asksOf 19 = .ok (.bipush 40, 2) := by decide +kernel
theorem eX11_asksOf_21 : decode cX11_asksOf 21 = .ok (.iload_n 1, 1) := by decide +kernel
theorem eX11_asksOf_22 : decode cX11_asksOf 22 = .ok (.imul, 1) := by decide +kernel
theorem eX11_asksOf_23 : decode cX11_asksOf 23 = .ok (.aload_n 0, 1) := by decide +kernel
theorem eX11_asksOf_24 : decode cX11_asksOf 24 = .ok (.getfield 30, 3) := by decide +kernel
theorem eX11_asksOf_27 : decode cX11_asksOf 27 = .ok (.bipush 8, 2) := by decide +kernel
theorem eX11_asksOf_29 : decode cX11_asksOf 29 = .ok (.iload_n 1, 1) := by decide +kernel
theorem eX11_asksOf_30 : decode cX11_asksOf 30 = .ok (.imul, 1) := by decide +kernel
theorem eX11_asksOf_31 : decode cX11_asksOf 31 = .ok (.iload_n 3, 1) := by decide +kernel
theorem eX11_asksOf_32 : decode cX11_asksOf 32 = .ok (.iadd, 1) := by decide +kernel
theorem eX11_asksOf_33 : decode cX11_asksOf 33 = .ok (.iaload, 1) := by decide +kernel
theorem eX11_asksOf_34 : decode cX11_asksOf 34 = .ok (.iadd, 1) := by decide +kernel
theorem eX11_asksOf_35 : decode cX11_asksOf 35 = .ok (.iaload, 1) := by decide +kernel
theorem eX11_asksOf_36 : decode cX11_asksOf 36 = .ok (.iadd, 1) := by decide +kernel
theorem eX11_asksOf_37 : decode cX11_asksOf 37 = .ok (.istore_n 2, 1) := by decide +kernel
theorem eX11_asksOf_38 : decode cX11_asksOf 38 = .ok (.iinc 3 1, 3) := by decide +kernel
theorem eX11_asksOf_41 : decode cX11_asksOf 41 = .ok (.goto (-37), 3) := by decide +kernel
theorem eX11_asksOf_44 : decode cX11_asksOf 44 = .ok (.iload_n 2, 1) := by decide +kernel
theorem eX11_asksOf_45 : decode cX11_asksOf 45 = .ok (.ireturn, 1) := by decide +kernel
def C_X11_asksOf (s : ST) (p : Int) (Q : ST → Int → Prop) : Prop := bx <| RA s → R32 p → q_met mX11_asksOf (qs layM s) [.ref 139, .int (Int32.ofInt p)] (PI layM Q)
theorem C_X11_asksOf.mono {s : ST} {p : Int} {Q Q' : ST → Int → Prop} (h : C_X11_asksOf s p Q) (hq : ∀ s v, Q s v → Q' s v) : C_X11_asksOf s p Q' := ⟨fun hA hrp => q_met.mono (h.1 hA hrp) (fun _ _ => PI.mono hq), trivial⟩
def K_X11_asksOf_4 (s : ST) (a1 : Int) (a2 : Int) (a3 : Int) (Q : ST → Int → Prop) : Prop := bx <| RA s → R32 a1 → R32 a2 → R32 a3 → q_K mX11_asksOf (qs layM s) 0 0 4 [(0, .ref 139), (1, .int (Int32.ofInt a1)), (2, .int (Int32.ofInt a2)), (3, .int (Int32.ofInt a3))] [] (q_fin mX11_asksOf (PI layM Q))
set_option maxRecDepth 20000 in
theorem s_X11_asksOf_4 {s : ST} {a1 : Int} {a2 : Int} {a3 : Int} {Q : ST → Int → Prop} (h : RA s → R32 a1 → R32 a2 → R32 a3 → (((0 : Int) ≤ a1 ∧ a1 < 6) ∧ ((s.1 143 a1 ≤ a3 → Q s a2) ∧ (¬ s.1 143 a1 ≤ a3 → (R32 (40 * a1) ∧ (R32 (8 * a1) ∧ (R32 ((8 * a1) + a3) ∧ (((0 : Int) ≤ ((8 * a1) + a3) ∧ ((8 * a1) + a3) < 48) ∧ (R32 ((40 * a1) + s.1 145 ((8 * a1) + a3)) ∧ (((0 : Int) ≤ ((40 * a1) + s.1 145 ((8 * a1) + a3)) ∧ ((40 * a1) + s.1 145 ((8 * a1) + a3)) < 240) ∧ (R32 (a2 + s.1 151 ((40 * a1) + s.1 145 ((8 * a1) + a3))) ∧ (R32 (a3 + 1) ∧ K_X11_asksOf_4 s a1 (a2 + s.1 151 ((40 * a1) + s.1 145 ((8 * a1) + a3))) (a3 + 1) Q)))))))))))) : K_X11_asksOf_4 s a1 a2 a3 Q := by
  refine ⟨?_, trivial⟩
  intro hA hra1 hra2 hra3
  have h := h hA hra1 hra2 hra3
  refine q_iload_n eX11_asksOf_4 rfl ?_
  refine q_aload_n eX11_asksOf_5 rfl ?_
  refine q_getR (c := 11) (n := 0) (k := 12) (a := 143) eX11_asksOf_6 rfl (by decide) (by decide) fX11_24 rfl rfl ?_
  refine q_iload_n eX11_asksOf_9 rfl ?_
  have f1 := h.1
  have h := h.2
  refine z_iald (n := 6) eX11_asksOf_10 rfl (ofz hra1) f1 ?_
  refine q_topI (v := Int32.ofInt (s.1 143 a1)) rfl ?_
  refine q_cz_ge (tgt := 44) (a := a3) (b := s.1 143 a1) eX11_asksOf_11 (by decide) (ofz hra3) (ofz (hA _ _)) (fun c11 => ?_) (fun c11 => ?_)
  · have h := h.1 c11
    refine q_iload_n eX11_asksOf_44 rfl ?_
    exact q_iret eX11_asksOf_45 rfl ⟨_, _, rfl, hA, hra2, rfl, h⟩
  · have h := h.2 c11
    refine q_iload_n eX11_asksOf_14 rfl ?_
    refine q_aload_n eX11_asksOf_15 rfl ?_
    refine q_getR (c := 11) (n := 0) (k := 20) (a := 151) eX11_asksOf_16 rfl (by decide) (by decide) fX11_48 rfl rfl ?_
    refine q_bi (v := Int32.ofInt 40) eX11_asksOf_19 rfl ?_
    refine q_iload_n eX11_asksOf_21 rfl ?_
    refine z_imul eX11_asksOf_22 ?_
    have r2 := h.1
    have h := h.2
    refine q_aload_n eX11_asksOf_23 rfl ?_
    refine q_getR (c := 11) (n := 0) (k := 14) (a := 145) eX11_asksOf_24 rfl (by decide) (by decide) fX11_30 rfl rfl ?_
    refine q_bi (v := Int32.ofInt 8) eX11_asksOf_27 rfl ?_
    refine q_iload_n eX11_asksOf_29 rfl ?_
    refine z_imul eX11_asksOf_30 ?_
    have r3 := h.1
    have h := h.2
    refine q_iload_n eX11_asksOf_31 rfl ?_
    refine z_iadd eX11_asksOf_32 ?_
    have r4 := h.1
    have h := h.2
    have f5 := h.1
    have h := h.2
    refine z_iald (n := 48) eX11_asksOf_33 rfl (ofz r4) f5 ?_
    refine q_topI (v := Int32.ofInt (s.1 145 ((8 * a1) + a3))) rfl ?_
    refine z_iadd eX11_asksOf_34 ?_
    have r6 := h.1
    have h := h.2
    have f7 := h.1
    have h := h.2
    refine z_iald (n := 240) eX11_asksOf_35 rfl (ofz r6) f7 ?_
    refine q_topI (v := Int32.ofInt (s.1 151 ((40 * a1) + s.1 145 ((8 * a1) + a3)))) rfl ?_
    refine z_iadd eX11_asksOf_36 ?_
    have r8 := h.1
    have h := h.2
    refine q_istore_n eX11_asksOf_37 (Nat.le_of_ble_eq_true rfl) ?_
    have r9 := h.1
    have h := h.2
    refine z_inc (m := 1) eX11_asksOf_38 rfl (Nat.le_of_ble_eq_true rfl) rfl ?_
    refine q_goto (tgt := 4) eX11_asksOf_41 (by decide) ?_
    exact q_subL rfl (h.1 hA hra1 r8 r9)
set_option maxRecDepth 20000 in
theorem s_X11_asksOf {s : ST} {p : Int} {Q : ST → Int → Prop} (h : RA s → R32 p → K_X11_asksOf_4 s p 0 0 Q) : C_X11_asksOf s p Q := by
  refine ⟨?_, trivial⟩
  intro hA hrp
  have h := h hA hrp
  refine q_enter (by decide) (Nat.le_of_ble_eq_true rfl) ?_
  refine q_ic (v := Int32.ofInt 0) eX11_asksOf_0 rfl ?_
  refine q_istore_n eX11_asksOf_1 (Nat.le_of_ble_eq_true rfl) ?_
  refine q_ic (v := Int32.ofInt 0) eX11_asksOf_2 rfl ?_
  refine q_istore_n eX11_asksOf_3 (Nat.le_of_ble_eq_true rfl) ?_
  exact q_subL rfl (h.1 hA hrp (r32l rfl) (r32l rfl))
theorem eX11_begin_0 : decode cX11_begin 0 = .ok (.iconst 0, 1) := by decide +kernel
theorem eX11_begin_1 : decode cX11_begin 1 = .ok (.istore_n 1, 1) := by decide +kernel
theorem eX11_begin_2 : decode cX11_begin 2 = .ok (.iload_n 1, 1) := by decide +kernel
theorem eX11_begin_3 : decode cX11_begin 3 = .ok (.bipush 40, 2) := by decide +kernel
theorem eX11_begin_5 : decode cX11_begin 5 = .ok (.if_icmp .ge 16, 3) := by decide +kernel
theorem eX11_begin_8 : decode cX11_begin 8 = .ok (.aload_n 0, 1) := by decide +kernel
theorem eX11_begin_9 : decode cX11_begin 9 = .ok (.getfield 128, 3) := by decide +kernel
theorem eX11_begin_12 : decode cX11_begin 12 = .ok (.iload_n 1, 1) := by decide +kernel
theorem eX11_begin_13 : decode cX11_begin 13 = .ok (.iconst 1, 1) := by decide +kernel
theorem eX11_begin_14 : decode cX11_begin 14 = .ok (.iastore, 1) := by decide +kernel
theorem eX11_begin_15 : decode cX11_begin 15 = .ok (.iinc 1 1, 3) := by decide +kernel
theorem eX11_begin_18 : decode cX11_begin 18 = .ok (.goto (-16), 3) := by decide +kernel
theorem eX11_begin_21 : decode cX11_begin 21 = .ok (.aload_n 0, 1) := by decide +kernel
theorem eX11_begin_22 : decode cX11_begin 22 = .ok (.iconst 0, 1) := by decide +kernel
theorem eX11_begin_23 : decode cX11_begin 23 = .ok (.putfield 560, 3) := by decide +kernel
theorem eX11_begin_26 : decode cX11_begin 26 = .ok (.aload_n 0, 1) := by decide +kernel
theorem eX11_begin_27 : decode cX11_begin 27 = .ok (.iconst (-1), 1) := by decide +kernel
theorem eX11_begin_28 : decode cX11_begin 28 = .ok (.putfield 118, 3) := by decide +kernel
theorem eX11_begin_31 : decode cX11_begin 31 = .ok (.aload_n 0, 1) := by decide +kernel
theorem eX11_begin_32 : decode cX11_begin 32 = .ok (.iconst 0, 1) := by decide +kernel
theorem eX11_begin_33 : decode cX11_begin 33 = .ok (.putfield 492, 3) := by decide +kernel
theorem eX11_begin_36 : decode cX11_begin 36 = .ok (.aload_n 0, 1) := by decide +kernel
theorem eX11_begin_37 : decode cX11_begin 37 = .ok (.iconst 0, 1) := by decide +kernel
theorem eX11_begin_38 : decode cX11_begin 38 = .ok (.putfield 496, 3) := by decide +kernel
theorem eX11_begin_41 : decode cX11_begin 41 = .ok (.return_, 1) := by decide +kernel
def C_X11_begin (s : ST) (Q : ST → Prop) : Prop := bx <| RA s → q_met mX11_begin (qs layM s) [.ref 139] (PV layM Q)
theorem C_X11_begin.mono {s : ST} {Q Q' : ST → Prop} (h : C_X11_begin s Q) (hq : ∀ s, Q s → Q' s) : C_X11_begin s Q' := ⟨fun hA => q_met.mono (h.1 hA) (fun _ _ => PV.mono hq), trivial⟩
def K_X11_begin_2 (s : ST) (a1 : Int) (Q : ST → Prop) : Prop := bx <| RA s → R32 a1 → q_K mX11_begin (qs layM s) 0 0 2 [(0, .ref 139), (1, .int (Int32.ofInt a1))] [] (q_fin mX11_begin (PV layM Q))
set_option maxRecDepth 20000 in
theorem s_X11_begin_2 {s : ST} {a1 : Int} {Q : ST → Prop} (h : RA s → R32 a1 → ((40 ≤ a1 → Q (ui (ui (ui (ui s 139 92 0) 139 49 (-1)) 139 62 0) 139 63 0)) ∧ (¬ 40 ≤ a1 → (((0 : Int) ≤ a1 ∧ a1 < 40) ∧ (R32 (a1 + 1) ∧ K_X11_begin_2 (ui s 176 a1 1) (a1 + 1) Q))))) : K_X11_begin_2 s a1 Q := by
  refine ⟨?_, trivial⟩
  intro hA hra1
  have h := h hA hra1
  refine q_iload_n eX11_begin_2 rfl ?_
  refine q_bi (v := Int32.ofInt 40) eX11_begin_3 rfl ?_
  refine q_cz_ge (tgt := 21) (a := a1) (b := 40) eX11_begin_5 (by decide) (ofz hra1) (ofz (r32l rfl)) (fun c5 => ?_) (fun c5 => ?_)
  · have h := h.1 c5
    refine q_aload_n eX11_begin_21 rfl ?_
    refine q_ic (v := Int32.ofInt 0) eX11_begin_22 rfl ?_
    refine z_putI (c := 11) (n := 0) (k := 92) (kz := 92) eX11_begin_23 rfl (by decide) (by decide) fX11_560 rfl rfl rfl ?_
    refine q_aload_n eX11_begin_26 rfl ?_
    refine q_ic (v := Int32.ofInt (-1)) eX11_begin_27 rfl ?_
    refine z_putI (c := 11) (n := 0) (k := 49) (kz := 49) eX11_begin_28 rfl (by decide) (by decide) fX11_118 rfl rfl rfl ?_
    refine q_aload_n eX11_begin_31 rfl ?_
    refine q_ic (v := Int32.ofInt 0) eX11_begin_32 rfl ?_
    refine z_putZ (c := 11) (n := 0) (k := 62) (kz := 62) eX11_begin_33 rfl (by decide) (by decide) fX11_492 rfl rfl rfl (z01 (Or.inl rfl)) ?_
    refine q_aload_n eX11_begin_36 rfl ?_
    refine q_ic (v := Int32.ofInt 0) eX11_begin_37 rfl ?_
    refine z_putZ (c := 11) (n := 0) (k := 63) (kz := 63) eX11_begin_38 rfl (by decide) (by decide) fX11_496 rfl rfl rfl (z01 (Or.inl rfl)) ?_
    exact q_ret eX11_begin_41 rfl ⟨_, rfl, (ra_ui (ra_ui (ra_ui (ra_ui hA (r32l rfl)) (r32l rfl)) (r32l rfl)) (r32l rfl)), rfl, h⟩
  · have h := h.2 c5
    refine q_aload_n eX11_begin_8 rfl ?_
    refine q_getR (c := 11) (n := 0) (k := 54) (a := 176) eX11_begin_9 rfl (by decide) (by decide) fX11_128 rfl rfl ?_
    refine q_iload_n eX11_begin_12 rfl ?_
    refine q_ic (v := Int32.ofInt 1) eX11_begin_13 rfl ?_
    have f1 := h.1
    have h := h.2
    refine z_iast (n := 40) eX11_begin_14 rfl (ofz hra1) f1  ?_
    have r2 := h.1
    have h := h.2
    refine z_inc (m := 1) eX11_begin_15 rfl (Nat.le_of_ble_eq_true rfl) rfl ?_
    refine q_goto (tgt := 2) eX11_begin_18 (by decide) ?_
    exact q_subL rfl (h.1 (ra_ui hA (r32l rfl)) r2)
set_option maxRecDepth 20000 in
theorem s_X11_begin {s : ST} {Q : ST → Prop} (h : RA s → K_X11_begin_2 s 0 Q) : C_X11_begin s Q := by
  refine ⟨?_, trivial⟩
  intro hA
  have h := h hA
  refine q_enter (by decide) (Nat.le_of_ble_eq_true rfl) ?_
  refine q_ic (v := Int32.ofInt 0) eX11_begin_0 rfl ?_
  refine q_istore_n eX11_begin_1 (Nat.le_of_ble_eq_true rfl) ?_
  exact q_subL rfl (h.1 hA (r32l rfl))
theorem eX11_program_0 : decode cX11_program 0 = .ok (.aload_n 0, 1) := by decide +kernel
theorem eX11_program_1 : decode cX11_program 1 = .ok (.iconst 0, 1) := by decide +kernel
theorem eX11_program_2 : decode cX11_program 2 = .ok (.putfield 222, 3) := by decide +kernel
theorem eX11_program_5 : decode cX11_program 5 = .ok (.aload_n 0, 1) := by decide +kernel
theorem eX11_program_6 : decode cX11_program 6 = .ok (.iconst (-1), 1) := by decide +kernel
theorem eX11_program_7 : decode cX11_program 7 = .ok (.putfield 16, 3) := by decide +kernel
theorem eX11_program_10 : decode cX11_program 10 = .ok (.aload_n 0, 1) := by decide +kernel
theorem eX11_program_11 : decode cX11_program 11 = .ok (.aload_n 0, 1) := by decide +kernel
theorem eX11_program_12 : decode cX11_program 12 = .ok (.getfield 318, 3) := by decide +kernel
theorem eX11_program_15 : decode cX11_program 15 = .ok (.putfield 219, 3) := by decide +kernel
theorem eX11_program_18 : decode cX11_program 18 = .ok (.iconst 0, 1) := by decide +kernel
theorem eX11_program_19 : decode cX11_program 19 = .ok (.istore_n 1, 1) := by decide +kernel
theorem eX11_program_20 : decode cX11_program 20 = .ok (.iload_n 1, 1) := by decide +kernel
theorem eX11_program_21 : decode cX11_program 21 = .ok (.aload_n 0, 1) := by decide +kernel
theorem eX11_program_22 : decode cX11_program 22 = .ok (.getfield 219, 3) := by decide +kernel
theorem eX11_program_25 : decode cX11_program 25 = .ok (.if_icmp .ge 21, 3) := by decide +kernel
theorem eX11_program_28 : decode cX11_program 28 = .ok (.aload_n 0, 1) := by decide +kernel
theorem eX11_program_29 : decode cX11_program 29 = .ok (.getfield 13, 3) := by decide +kernel
theorem eX11_program_32 : decode cX11_program 32 = .ok (.iload_n 1, 1) := by decide +kernel
theorem eX11_program_33 : decode cX11_program 33 = .ok (.aload_n 0, 1) := by decide +kernel
theorem eX11_program_34 : decode cX11_program 34 = .ok (.getfield 7, 3) := by decide +kernel
theorem eX11_program_37 : decode cX11_program 37 = .ok (.iload_n 1, 1) := by decide +kernel
theorem eX11_program_38 : decode cX11_program 38 = .ok (.baload, 1) := by decide +kernel
theorem eX11_program_39 : decode cX11_program 39 = .ok (.bastore, 1) := by decide +kernel
theorem eX11_program_40 : decode cX11_program 40 = .ok (.iinc 1 1, 3) := by decide +kernel
theorem eX11_program_43 : decode cX11_program 43 = .ok (.goto (-23), 3) := by decide +kernel
theorem eX11_program_46 : decode cX11_program 46 = .ok (.aload_n 0, 1) := by decide +kernel
theorem eX11_program_47 : decode cX11_program 47 = .ok (.iconst 0, 1) := by decide +kernel
theorem eX11_program_48 : decode cX11_program 48 = .ok (.putfield 318, 3) := by decide +kernel
theorem eX11_program_51 : decode cX11_program 51 = .ok (.aload_n 0, 1) := by decide +kernel
theorem eX11_program_52 : decode cX11_program 52 = .ok (.iconst 0, 1) := by decide +kernel
theorem eX11_program_53 : decode cX11_program 53 = .ok (.putfield 273, 3) := by decide +kernel
theorem eX11_program_56 : decode cX11_program 56 = .ok (.aload_n 0, 1) := by decide +kernel
theorem eX11_program_57 : decode cX11_program 57 = .ok (.iconst 1, 1) := by decide +kernel
theorem eX11_program_58 : decode cX11_program 58 = .ok (.aload_n 0, 1) := by decide +kernel
theorem eX11_program_59 : decode cX11_program 59 = .ok (.getfield 321, 3) := by decide +kernel
theorem eX11_program_62 : decode cX11_program 62 = .ok (.isub, 1) := by decide +kernel
theorem eX11_program_63 : decode cX11_program 63 = .ok (.putfield 324, 3) := by decide +kernel
theorem eX11_program_66 : decode cX11_program 66 = .ok (.aload_n 0, 1) := by decide +kernel
theorem eX11_program_67 : decode cX11_program 67 = .ok (.aload_n 0, 1) := by decide +kernel
theorem eX11_program_68 : decode cX11_program 68 = .ok (.getfield 324, 3) := by decide +kernel
theorem eX11_program_71 : decode cX11_program 71 = .ok (.invokevirtual 212, 3) := by decide +kernel
theorem eX11_program_74 : decode cX11_program 74 = .ok (.aload_n 0, 1) := by decide +kernel
theorem eX11_program_75 : decode cX11_program 75 = .ok (.invokevirtual 312, 3) := by decide +kernel
theorem eX11_program_78 : decode cX11_program 78 = .ok (.aload_n 0, 1) := by decide +kernel
theorem eX11_program_79 : decode cX11_program 79 = .ok (.invokevirtual 308, 3) := by decide +kernel
theorem eX11_program_82 : decode cX11_program 82 = .ok (.ifCond .eq 17, 3) := by decide +kernel
theorem eX11_program_85 : decode cX11_program 85 = .ok (.aload_n 0, 1) := by decide +kernel
theorem eX11_program_86 : decode cX11_program 86 = .ok (.getfield 283, 3) := by decide +kernel
theorem eX11_program_89 : decode cX11_program 89 = .ok (.ifCond .eq 10, 3) := by decide +kernel
theorem eX11_program_92 : decode cX11_program 92 = .ok (.aload_n 0, 1) := by decide +kernel
theorem eX11_program_93 : decode cX11_program 93 = .ok (.invokevirtual 327, 3) := by decide +kernel
theorem eX11_program_96 : decode cX11_program 96 = .ok (.goto (-18), 3) := by decide +kernel
theorem eX11_program_99 : decode cX11_program 99 = .ok (.aload_n 0, 1) := by decide +kernel
theorem eX11_program_100 : decode cX11_program 100 = .ok (.invokevirtual 308, 3) := by decide +kernel
theorem eX11_program_103 : decode cX11_program 103 = .ok (.ifCond .eq 26, 3) := by decide +kernel
theorem eX11_program_106 : decode cX11_program 106 = .ok (.aload_n 0, 1) := by decide +kernel
theorem eX11_program_107 : decode cX11_program 107 = .ok (.aload_n 0, 1) := by decide +kernel
theorem eX11_program_108 : decode cX11_program 108 = .ok (.getfield 324, 3) := by decide +kernel
theorem eX11_program_111 : decode cX11_program 111 = .ok (.invokevirtual 330, 3) := by decide +kernel
theorem eX11_program_114 : decode cX11_program 114 = .ok (.sipush 400, 3) := by decide +kernel
theorem eX11_program_117 : decode cX11_program 117 = .ok (.if_icmp .le 12, 3) := by decide +kernel
theorem eX11_program_120 : decode cX11_program 120 = .ok (.aload_n 0, 1) := by decide +kernel
theorem eX11_program_121 : decode cX11_program 121 = .ok (.iconst 5, 1) := by decide +kernel
theorem eX11_program_122 : decode cX11_program 122 = .ok (.aload_n 0, 1) := by decide +kernel
theorem eX11_program_123 : decode cX11_program 123 = .ok (.getfield 219, 3) := by decide +kernel
theorem eX11_program_126 : decode cX11_program 126 = .ok (.invokevirtual 304, 3) := by decide +kernel
theorem eX11_program_129 : decode cX11_program 129 = .ok (.aload_n 0, 1) := by decide +kernel
theorem eX11_program_130 : decode cX11_program 130 = .ok (.invokevirtual 308, 3) := by decide +kernel
theorem eX11_program_133 : decode cX11_program 133 = .ok (.ifCond .ne 5, 3) := by decide +kernel
theorem eX11_program_136 : decode cX11_program 136 = .ok (.iconst (-1), 1) := by decide +kernel
theorem eX11_program_137 : decode cX11_program 137 = .ok (.ireturn, 1) := by decide +kernel
theorem eX11_program_138 : decode cX11_program 138 = .ok (.aload_n 0, 1) := by decide +kernel
theorem eX11_program_139 : decode cX11_program 139 = .ok (.aload_n 0, 1) := by decide +kernel
theorem eX11_program_140 : decode cX11_program 140 = .ok (.getfield 324, 3) := by decide +kernel
theorem eX11_program_143 : decode cX11_program 143 = .ok (.putfield 321, 3) := by decide +kernel
theorem eX11_program_146 : decode cX11_program 146 = .ok (.iconst 0, 1) := by decide +kernel
theorem eX11_program_147 : decode cX11_program 147 = .ok (.istore_n 1, 1) := by decide +kernel
theorem eX11_program_148 : decode cX11_program 148 = .ok (.iload_n 1, 1) := by decide +kernel
theorem eX11_program_149 : decode cX11_program 149 = .ok (.iconst 3, 1) := by decide +kernel
theorem eX11_program_150 : decode cX11_program 150 = .ok (.if_icmp .ge 16, 3) := by decide +kernel
theorem eX11_program_153 : decode cX11_program 153 = .ok (.aload_n 0, 1) := by decide +kernel
theorem eX11_program_154 : decode cX11_program 154 = .ok (.getfield 209, 3) := by decide +kernel
theorem eX11_program_157 : decode cX11_program 157 = .ok (.iload_n 1, 1) := by decide +kernel
theorem eX11_program_158 : decode cX11_program 158 = .ok (.iconst 0, 1) := by decide +kernel
theorem eX11_program_159 : decode cX11_program 159 = .ok (.bastore, 1) := by decide +kernel
theorem eX11_program_160 : decode cX11_program 160 = .ok (.iinc 1 1, 3) := by decide +kernel
theorem eX11_program_163 : decode cX11_program 163 = .ok (.goto (-15), 3) := by decide +kernel
theorem eX11_program_166 : decode cX11_program 166 = .ok (.aload_n 0, 1) := by decide +kernel
theorem eX11_program_167 : decode cX11_program 167 = .ok (.invokevirtual 216, 3) := by decide +kernel
theorem eX11_program_170 : decode cX11_program 170 = .ok (.aload_n 0, 1) := by decide +kernel
theorem eX11_program_171 : decode cX11_program 171 = .ok (.getfield 20, 3) := by decide +kernel
theorem eX11_program_174 : decode cX11_program 174 = .ok (.aload_n 0, 1) := by decide +kernel
theorem eX11_program_175 : decode cX11_program 175 = .ok (.getfield 321, 3) := by decide +kernel
theorem eX11_program_178 : decode cX11_program 178 = .ok (.iaload, 1) := by decide +kernel
theorem eX11_program_179 : decode cX11_program 179 = .ok (.ireturn, 1) := by decide +kernel
def C_X11_program (s : ST) (Q : ST → Int → Prop) : Prop := bx <| RA s → q_met mX11_program (qs layM s) [.ref 139] (PI layM Q)
theorem C_X11_program.mono {s : ST} {Q Q' : ST → Int → Prop} (h : C_X11_program s Q) (hq : ∀ s v, Q s v → Q' s v) : C_X11_program s Q' := ⟨fun hA => q_met.mono (h.1 hA) (fun _ _ => PI.mono hq), trivial⟩
def K_X11_program_148 (s : ST) (a1 : Int) (Q : ST → Int → Prop) : Prop := bx <| RA s → R32 a1 → q_K mX11_program (qs layM s) 0 0 148 [(0, .ref 139), (1, .int (Int32.ofInt a1))] [] (q_fin mX11_program (PI layM Q))
def K_X11_program_129 (s : ST) (Q : ST → Int → Prop) : Prop := bx <| RA s → q_K mX11_program (qs layM s) 0 0 129 [(0, .ref 139)] [] (q_fin mX11_program (PI layM Q))
def K_X11_program_99 (s : ST) (Q : ST → Int → Prop) : Prop := bx <| RA s → q_K mX11_program (qs layM s) 0 0 99 [(0, .ref 139)] [] (q_fin mX11_program (PI layM Q))
def K_X11_program_78 (s : ST) (Q : ST → Int → Prop) : Prop := bx <| RA s → q_K mX11_program (qs layM s) 0 0 78 [(0, .ref 139)] [] (q_fin mX11_program (PI layM Q))
def K_X11_program_20 (s : ST) (a1 : Int) (Q : ST → Int → Prop) : Prop := bx <| RA s → R32 a1 → q_K mX11_program (qs layM s) 0 0 20 [(0, .ref 139), (1, .int (Int32.ofInt a1))] [] (q_fin mX11_program (PI layM Q))
set_option maxRecDepth 20000 in
theorem s_X11_program_148 {s : ST} {a1 : Int} {Q : ST → Int → Prop} (h : RA s → R32 a1 → ((3 ≤ a1 → (C_X11_begin s (fun s1 => (((0 : Int) ≤ s1.1 139 28 ∧ s1.1 139 28 < 6) ∧ Q s1 (s1.1 142 (s1.1 139 28)))))) ∧ (¬ 3 ≤ a1 → (((0 : Int) ≤ a1 ∧ a1 < 3) ∧ (R32 (a1 + 1) ∧ K_X11_program_148 (ui s 203 a1 0) (a1 + 1) Q))))) : K_X11_program_148 s a1 Q := by
  refine ⟨?_, trivial⟩
  intro hA hra1
  have h := h hA hra1
  refine q_iload_n eX11_program_148 rfl ?_
  refine q_ic (v := Int32.ofInt 3) eX11_program_149 rfl ?_
  refine q_cz_ge (tgt := 166) (a := a1) (b := 3) eX11_program_150 (by decide) (ofz hra1) (ofz (r32l rfl)) (fun c150 => ?_) (fun c150 => ?_)
  · have h := h.1 c150
    refine q_aload_n eX11_program_166 rfl ?_
    refine q_V0 (ci := 11) (n := 0) eX11_program_167 DX11_begin lX11_216 rfl (by decide) rfl rfl rfl rfl (h.1 hA) ?_
    rintro _ _ ⟨s1, rfl, hA1, rfl, h⟩
    refine q_aload_n eX11_program_170 rfl ?_
    refine q_getR (c := 11) (n := 0) (k := 11) (a := 142) eX11_program_171 rfl (by decide) (by decide) fX11_20 rfl rfl ?_
    refine q_aload_n eX11_program_174 rfl ?_
    refine q_getf (c := 11) (n := 0) (k := 28) (v := .int (Int32.ofInt (s1.1 139 28))) eX11_program_175 rfl (by decide) (by decide) fX11_321 rfl ?_
    have f2 := h.1
    have h := h.2
    refine z_iald (n := 6) eX11_program_178 rfl (ofz (hA1 _ _)) f2 ?_
    refine q_topI (v := Int32.ofInt (s1.1 142 (s1.1 139 28))) rfl ?_
    exact q_iret eX11_program_179 rfl ⟨_, _, rfl, hA1, (hA1 _ _), rfl, h⟩
  · have h := h.2 c150
    refine q_aload_n eX11_program_153 rfl ?_
    refine q_getR (c := 11) (n := 0) (k := 97) (a := 203) eX11_program_154 rfl (by decide) (by decide) fX11_209 rfl rfl ?_
    refine q_iload_n eX11_program_157 rfl ?_
    refine q_ic (v := Int32.ofInt 0) eX11_program_158 rfl ?_
    have f3 := h.1
    have h := h.2
    refine z_zast (n := 3) eX11_program_159 rfl (ofz hra1) f3 (z01 (Or.inl rfl)) ?_
    have r4 := h.1
    have h := h.2
    refine z_inc (m := 1) eX11_program_160 rfl (Nat.le_of_ble_eq_true rfl) rfl ?_
    refine q_goto (tgt := 148) eX11_program_163 (by decide) ?_
    exact q_subL rfl (h.1 (ra_ui hA (r32l rfl)) r4)
set_option maxRecDepth 20000 in
theorem s_X11_program_129 {s : ST} {Q : ST → Int → Prop} (h : RA s → (((s.1 139 4 = 0) → K_X11_program_148 (ui s 139 28 (s.1 139 29)) 0 Q) ∧ (¬ (s.1 139 4 = 0) → Q s (-1)))) : K_X11_program_129 s Q := by
  refine ⟨?_, trivial⟩
  intro hA
  have h := h hA
  refine q_aload_n eX11_program_129 rfl ?_
  refine q_V0 (ci := 11) (n := 0) eX11_program_130 DX11_isGood lX11_308 rfl (by decide) rfl rfl rfl rfl (p_X11_isGood hA) ?_
  rintro _ _ ⟨b1, rfl, rfl⟩
  refine q_iz_ne (tgt := 138) (a := (F_X11_isGood s)) eX11_program_133 (by decide) (ofz (r01 b1)) (fun c133 => ?_) (fun c133 => ?_)
  · have h := h.1 (n_X11_isGood.mp c133)
    refine q_aload_n eX11_program_138 rfl ?_
    refine q_aload_n eX11_program_139 rfl ?_
    refine q_getf (c := 11) (n := 0) (k := 29) (v := .int (Int32.ofInt (s.1 139 29))) eX11_program_140 rfl (by decide) (by decide) fX11_324 rfl ?_
    refine z_putI (c := 11) (n := 0) (k := 28) (kz := 28) eX11_program_143 rfl (by decide) (by decide) fX11_321 rfl rfl rfl ?_
    refine q_ic (v := Int32.ofInt 0) eX11_program_146 rfl ?_
    refine q_istore_n eX11_program_147 (Nat.le_of_ble_eq_true rfl) ?_
    exact q_subL rfl (h.1 (ra_ui hA (hA _ _)) (r32l rfl))
  · have h := h.2 (fun q => n_X11_isGood.mpr q c133)
    refine q_ic (v := Int32.ofInt (-1)) eX11_program_136 rfl ?_
    exact q_iret eX11_program_137 rfl ⟨_, _, rfl, hA, (r32l rfl), rfl, h⟩
set_option maxRecDepth 20000 in
theorem s_X11_program_99 {s : ST} {Q : ST → Int → Prop} (h : RA s → ((¬ (s.1 139 4 = 0) → K_X11_program_129 s Q) ∧ ((s.1 139 4 = 0) → (C_X11_asksOf s (s.1 139 29) (fun s2 v2 => ((v2 ≤ 400 → K_X11_program_129 s2 Q) ∧ (¬ v2 ≤ 400 → (C_X11_fails s2 5 (s2.1 139 3) (fun s3 => K_X11_program_129 s3 Q))))))))) : K_X11_program_99 s Q := by
  refine ⟨?_, trivial⟩
  intro hA
  have h := h hA
  refine q_aload_n eX11_program_99 rfl ?_
  refine q_V0 (ci := 11) (n := 0) eX11_program_100 DX11_isGood lX11_308 rfl (by decide) rfl rfl rfl rfl (p_X11_isGood hA) ?_
  rintro _ _ ⟨b1, rfl, rfl⟩
  refine q_iz_eq (tgt := 129) (a := (F_X11_isGood s)) eX11_program_103 (by decide) (ofz (r01 b1)) (fun c103 => ?_) (fun c103 => ?_)
  · have h := h.1 (fun q => n_X11_isGood.mpr q c103)
    exact q_subL rfl (h.1 hA)
  · have h := h.2 (n_X11_isGood.mp c103)
    refine q_aload_n eX11_program_106 rfl ?_
    refine q_aload_n eX11_program_107 rfl ?_
    refine q_getf (c := 11) (n := 0) (k := 29) (v := .int (Int32.ofInt (s.1 139 29))) eX11_program_108 rfl (by decide) (by decide) fX11_324 rfl ?_
    refine q_V1 (ci := 11) (n := 0) eX11_program_111 DX11_asksOf lX11_330 rfl (by decide) rfl rfl rfl rfl (h.1 hA (hA _ _)) ?_
    rintro _ _ ⟨s2, v2, rfl, hA2, r2, rfl, h⟩
    refine q_si (v := Int32.ofInt 400) eX11_program_114 rfl ?_
    refine q_cz_le (tgt := 129) (a := v2) (b := 400) eX11_program_117 (by decide) (ofz r2) (ofz (r32l rfl)) (fun c117 => ?_) (fun c117 => ?_)
    · have h := h.1 c117
      exact q_subL rfl (h.1 hA2)
    · have h := h.2 c117
      refine q_aload_n eX11_program_120 rfl ?_
      refine q_ic (v := Int32.ofInt 5) eX11_program_121 rfl ?_
      refine q_aload_n eX11_program_122 rfl ?_
      refine q_getf (c := 11) (n := 0) (k := 3) (v := .int (Int32.ofInt (s2.1 139 3))) eX11_program_123 rfl (by decide) (by decide) fX11_219 rfl ?_
      refine q_V2 (ci := 11) (n := 0) eX11_program_126 DX11_fails lX11_304 rfl (by decide) rfl rfl rfl rfl (h.1 hA2 (r32l rfl) (hA2 _ _)) ?_
      rintro _ _ ⟨s3, rfl, hA3, rfl, h⟩
      exact q_subL rfl (h.1 hA3)
set_option maxRecDepth 20000 in
theorem s_X11_program_78 {s : ST} {Q : ST → Int → Prop} (h : RA s → ((¬ (s.1 139 4 = 0) → K_X11_program_99 s Q) ∧ ((s.1 139 4 = 0) → ((s.1 139 8 = 0 → K_X11_program_99 s Q) ∧ (¬ s.1 139 8 = 0 → (C_X11_readDef s (fun s2 => K_X11_program_78 s2 Q))))))) : K_X11_program_78 s Q := by
  refine ⟨?_, trivial⟩
  intro hA
  have h := h hA
  refine q_aload_n eX11_program_78 rfl ?_
  refine q_V0 (ci := 11) (n := 0) eX11_program_79 DX11_isGood lX11_308 rfl (by decide) rfl rfl rfl rfl (p_X11_isGood hA) ?_
  rintro _ _ ⟨b1, rfl, rfl⟩
  refine q_iz_eq (tgt := 99) (a := (F_X11_isGood s)) eX11_program_82 (by decide) (ofz (r01 b1)) (fun c82 => ?_) (fun c82 => ?_)
  · have h := h.1 (fun q => n_X11_isGood.mpr q c82)
    exact q_subL rfl (h.1 hA)
  · have h := h.2 (n_X11_isGood.mp c82)
    refine q_aload_n eX11_program_85 rfl ?_
    refine q_getf (c := 11) (n := 0) (k := 8) (v := .int (Int32.ofInt (s.1 139 8))) eX11_program_86 rfl (by decide) (by decide) fX11_283 rfl ?_
    refine q_iz_eq (tgt := 99) (a := s.1 139 8) eX11_program_89 (by decide) (ofz (hA _ _)) (fun c89 => ?_) (fun c89 => ?_)
    · have h := h.1 c89
      exact q_subL rfl (h.1 hA)
    · have h := h.2 c89
      refine q_aload_n eX11_program_92 rfl ?_
      refine q_V0 (ci := 11) (n := 0) eX11_program_93 DX11_readDef lX11_327 rfl (by decide) rfl rfl rfl rfl (h.1 hA) ?_
      rintro _ _ ⟨s2, rfl, hA2, rfl, h⟩
      refine q_goto (tgt := 78) eX11_program_96 (by decide) ?_
      exact q_subL rfl (h.1 hA2)
set_option maxRecDepth 20000 in
theorem s_X11_program_20 {s : ST} {a1 : Int} {Q : ST → Int → Prop} (h : RA s → R32 a1 → ((s.1 139 3 ≤ a1 → (R32 (1 - s.1 139 28) ∧ (C_X11_clearBank (ui (ui (ui s 139 2 0) 139 7 0) 139 29 (1 - s.1 139 28)) (1 - s.1 139 28) (fun s2 => (C_X11_goOn s2 (fun s3 => K_X11_program_78 s3 Q)))))) ∧ (¬ s.1 139 3 ≤ a1 → (((0 : Int) ≤ a1 ∧ a1 < 1620) ∧ (((0 : Int) ≤ a1 ∧ a1 < 1600) ∧ (R32 (a1 + 1) ∧ K_X11_program_20 (ui s 141 a1 (i8 (s.1 140 a1))) (a1 + 1) Q)))))) : K_X11_program_20 s a1 Q := by
  refine ⟨?_, trivial⟩
  intro hA hra1
  have h := h hA hra1
  refine q_iload_n eX11_program_20 rfl ?_
  refine q_aload_n eX11_program_21 rfl ?_
  refine q_getf (c := 11) (n := 0) (k := 3) (v := .int (Int32.ofInt (s.1 139 3))) eX11_program_22 rfl (by decide) (by decide) fX11_219 rfl ?_
  refine q_cz_ge (tgt := 46) (a := a1) (b := s.1 139 3) eX11_program_25 (by decide) (ofz hra1) (ofz (hA _ _)) (fun c25 => ?_) (fun c25 => ?_)
  · have h := h.1 c25
    refine q_aload_n eX11_program_46 rfl ?_
    refine q_ic (v := Int32.ofInt 0) eX11_program_47 rfl ?_
    refine z_putI (c := 11) (n := 0) (k := 2) (kz := 2) eX11_program_48 rfl (by decide) (by decide) fX11_318 rfl rfl rfl ?_
    refine q_aload_n eX11_program_51 rfl ?_
    refine q_ic (v := Int32.ofInt 0) eX11_program_52 rfl ?_
    refine z_putI (c := 11) (n := 0) (k := 7) (kz := 7) eX11_program_53 rfl (by decide) (by decide) fX11_273 rfl rfl rfl ?_
    refine q_aload_n eX11_program_56 rfl ?_
    refine q_ic (v := Int32.ofInt 1) eX11_program_57 rfl ?_
    refine q_aload_n eX11_program_58 rfl ?_
    refine q_getf (c := 11) (n := 0) (k := 28) (v := .int (Int32.ofInt (s.1 139 28))) eX11_program_59 rfl (by decide) (by decide) fX11_321 rfl ?_
    refine z_isub eX11_program_62 ?_
    have r1 := h.1
    have h := h.2
    refine z_putI (c := 11) (n := 0) (k := 29) (kz := 29) eX11_program_63 rfl (by decide) (by decide) fX11_324 rfl rfl rfl ?_
    refine q_aload_n eX11_program_66 rfl ?_
    refine q_aload_n eX11_program_67 rfl ?_
    refine q_getf (c := 11) (n := 0) (k := 29) (v := .int (Int32.ofInt (1 - s.1 139 28))) eX11_program_68 rfl (by decide) (by decide) fX11_324 rfl ?_
    refine q_V1 (ci := 11) (n := 0) eX11_program_71 DX11_clearBank lX11_212 rfl (by decide) rfl rfl rfl rfl (h.1 (ra_ui (ra_ui (ra_ui hA (r32l rfl)) (r32l rfl)) r1) r1) ?_
    rintro _ _ ⟨s2, rfl, hA2, rfl, h⟩
    refine q_aload_n eX11_program_74 rfl ?_
    refine q_V0 (ci := 11) (n := 0) eX11_program_75 DX11_goOn lX11_312 rfl (by decide) rfl rfl rfl rfl (h.1 hA2) ?_
    rintro _ _ ⟨s3, rfl, hA3, rfl, h⟩
    exact q_subL rfl (h.1 hA3)
  · have h := h.2 c25
    refine q_aload_n eX11_program_28 rfl ?_
    refine q_getR (c := 11) (n := 0) (k := 1) (a := 141) eX11_program_29 rfl (by decide) (by decide) fX11_13 rfl rfl ?_
    refine q_iload_n eX11_program_32 rfl ?_
    refine q_aload_n eX11_program_33 rfl ?_
    refine q_getR (c := 11) (n := 0) (k := 0) (a := 140) eX11_program_34 rfl (by decide) (by decide) fX11_7 rfl rfl ?_
    refine q_iload_n eX11_program_37 rfl ?_
    have f4 := h.1
    have h := h.2
    refine z_bald (n := 1620) eX11_program_38 rfl (ofz hra1) f4 ?_
    refine q_topI (v := Int32.ofInt (s.1 140 a1)) rfl ?_
    have f5 := h.1
    have h := h.2
    refine z_bast (n := 1600) eX11_program_39 rfl (ofz hra1) f5  ?_
    have r6 := h.1
    have h := h.2
    refine z_inc (m := 1) eX11_program_40 rfl (Nat.le_of_ble_eq_true rfl) rfl ?_
    refine q_goto (tgt := 20) eX11_program_43 (by decide) ?_
    exact q_subL rfl (h.1 (ra_ui hA (i8_r _)) r6)
set_option maxRecDepth 20000 in
theorem s_X11_program {s : ST} {Q : ST → Int → Prop} (h : RA s → K_X11_program_20 (ui (ui (ui s 139 4 0) 139 5 (-1)) 139 3 (s.1 139 2)) 0 Q) : C_X11_program s Q := by
  refine ⟨?_, trivial⟩
  intro hA
  have h := h hA
  refine q_enter (by decide) (Nat.le_of_ble_eq_true rfl) ?_
  refine q_aload_n eX11_program_0 rfl ?_
  refine q_ic (v := Int32.ofInt 0) eX11_program_1 rfl ?_
  refine z_putI (c := 11) (n := 0) (k := 4) (kz := 4) eX11_program_2 rfl (by decide) (by decide) fX11_222 rfl rfl rfl ?_
  refine q_aload_n eX11_program_5 rfl ?_
  refine q_ic (v := Int32.ofInt (-1)) eX11_program_6 rfl ?_
  refine z_putI (c := 11) (n := 0) (k := 5) (kz := 5) eX11_program_7 rfl (by decide) (by decide) fX11_16 rfl rfl rfl ?_
  refine q_aload_n eX11_program_10 rfl ?_
  refine q_aload_n eX11_program_11 rfl ?_
  refine q_getf (c := 11) (n := 0) (k := 2) (v := .int (Int32.ofInt (s.1 139 2))) eX11_program_12 rfl (by decide) (by decide) fX11_318 rfl ?_
  refine z_putI (c := 11) (n := 0) (k := 3) (kz := 3) eX11_program_15 rfl (by decide) (by decide) fX11_219 rfl rfl rfl ?_
  refine q_ic (v := Int32.ofInt 0) eX11_program_18 rfl ?_
  refine q_istore_n eX11_program_19 (Nat.le_of_ble_eq_true rfl) ?_
  exact q_subL rfl (h.1 (ra_ui (ra_ui (ra_ui hA (r32l rfl)) (r32l rfl)) (hA _ _)) (r32l rfl))
theorem eX11_fault_0 : decode cX11_fault 0 = .ok (.iload_n 1, 1) := by decide +kernel
theorem eX11_fault_1 : decode cX11_fault 1 = .ok (.ifCond .ne 10, 3) := by decide +kernel
theorem eX11_fault_4 : decode cX11_fault 4 = .ok (.aload_n 0, 1) := by decide +kernel
theorem eX11_fault_5 : decode cX11_fault 5 = .ok (.getfield 222, 3) := by decide +kernel
theorem eX11_fault_8 : decode cX11_fault 8 = .ok (.goto 16, 3) := by decide +kernel
theorem eX11_fault_11 : decode cX11_fault 11 = .ok (.iload_n 1, 1) := by decide +kernel
theorem eX11_fault_12 : decode cX11_fault 12 = .ok (.iconst 1, 1) := by decide +kernel
theorem eX11_fault_13 : decode cX11_fault 13 = .ok (.if_icmp .ne 10, 3) := by decide +kernel
theorem eX11_fault_16 : decode cX11_fault 16 = .ok (.aload_n 0, 1) := by decide +kernel
theorem eX11_fault_17 : decode cX11_fault 17 = .ok (.getfield 16, 3) := by decide +kernel
theorem eX11_fault_20 : decode cX11_fault 20 = .ok (.goto 4, 3) := by decide +kernel
theorem eX11_fault_23 : decode cX11_fault 23 = .ok (.iconst (-1), 1) := by decide +kernel
theorem eX11_fault_24 : decode cX11_fault 24 = .ok (.ireturn, 1) := by decide +kernel
def C_X11_fault (s : ST) (p : Int) (Q : ST → Int → Prop) : Prop := bx <| RA s → R32 p → q_met mX11_fault (qs layM s) [.ref 139, .int (Int32.ofInt p)] (PI layM Q)
theorem C_X11_fault.mono {s : ST} {p : Int} {Q Q' : ST → Int → Prop} (h : C_X11_fault s p Q) (hq : ∀ s v, Q s v → Q' s v) : C_X11_fault s p Q' := ⟨fun hA hrp => q_met.mono (h.1 hA hrp) (fun _ _ => PI.mono hq), trivial⟩
set_option maxRecDepth 20000 in
theorem s_X11_fault {s : ST} {p : Int} {Q : ST → Int → Prop} (h : RA s → R32 p → ((¬ p = 0 → ((¬ p = 1 → Q s (-1)) ∧ (p = 1 → Q s (s.1 139 5)))) ∧ (p = 0 → Q s (s.1 139 4)))) : C_X11_fault s p Q := by
  refine ⟨?_, trivial⟩
  intro hA hrp
  have h := h hA hrp
  refine q_enter (by decide) (Nat.le_of_ble_eq_true rfl) ?_
  refine q_iload_n eX11_fault_0 rfl ?_
  refine q_iz_ne (tgt := 11) (a := p) eX11_fault_1 (by decide) (ofz hrp) (fun c1 => ?_) (fun c1 => ?_)
  · have h := h.1 c1
    refine q_iload_n eX11_fault_11 rfl ?_
    refine q_ic (v := Int32.ofInt 1) eX11_fault_12 rfl ?_
    refine q_cz_ne (tgt := 23) (a := p) (b := 1) eX11_fault_13 (by decide) (ofz hrp) (ofz (r32l rfl)) (fun c13 => ?_) (fun c13 => ?_)
    · have h := h.1 c13
      refine q_ic (v := Int32.ofInt (-1)) eX11_fault_23 rfl ?_
      exact q_iret eX11_fault_24 rfl ⟨_, _, rfl, hA, (r32l rfl), rfl, h⟩
    · have h := h.2 c13
      refine q_aload_n eX11_fault_16 rfl ?_
      refine q_getf (c := 11) (n := 0) (k := 5) (v := .int (Int32.ofInt (s.1 139 5))) eX11_fault_17 rfl (by decide) (by decide) fX11_16 rfl ?_
      refine q_goto (tgt := 24) eX11_fault_20 (by decide) ?_
      exact q_iret eX11_fault_24 rfl ⟨_, _, rfl, hA, (hA _ _), rfl, h⟩
  · have h := h.2 c1
    refine q_aload_n eX11_fault_4 rfl ?_
    refine q_getf (c := 11) (n := 0) (k := 4) (v := .int (Int32.ofInt (s.1 139 4))) eX11_fault_5 rfl (by decide) (by decide) fX11_222 rfl ?_
    refine q_goto (tgt := 24) eX11_fault_8 (by decide) ?_
    exact q_iret eX11_fault_24 rfl ⟨_, _, rfl, hA, (hA _ _), rfl, h⟩
def F_X11_fault (s : ST) (p : Int) : Int := (if p = 0 then s.1 139 4 else (if p = 1 then s.1 139 5 else (-1)))
theorem w_X11_fault {s : ST} {p : Int} : C_X11_fault s p (fun s' v => s' = s ∧ v = F_X11_fault s p) := by
  refine s_X11_fault (fun hA hrp => ?_)
  refine ⟨fun e0 => ?_, fun e0 => ?_⟩
  · refine ⟨fun e1 => ?_, fun e1 => ?_⟩
    · exact ⟨rfl, by unfold F_X11_fault; rw [if_neg e0, if_neg e1]⟩
    · exact ⟨rfl, by unfold F_X11_fault; rw [if_neg e0, if_pos e1]⟩
  · exact ⟨rfl, by unfold F_X11_fault; rw [if_pos e0]⟩
theorem p_X11_fault {s : ST} {p : Int} : RA s → R32 p → q_met mX11_fault (qs layM s) [.ref 139, .int (Int32.ofInt p)] (fun σ r => R32 (F_X11_fault s p) ∧ σ = qs layM s ∧ r = some (.int (Int32.ofInt (F_X11_fault s p)))) := fun hA hrp => q_met.mono ((w_X11_fault).1 hA hrp) (by
  rintro _ _ ⟨s1, v1, rfl, h1, h2, rfl, rfl, rfl⟩
  exact ⟨h2, rfl, rfl⟩)
theorem eX11_isIn_0 : decode cX11_isIn 0 = .ok (.iload_n 0, 1) := by decide +kernel
theorem eX11_isIn_1 : decode cX11_isIn 1 = .ok (.iload_n 1, 1) := by decide +kernel
theorem eX11_isIn_2 : decode cX11_isIn 2 = .ok (.if_icmp .lt 12, 3) := by decide +kernel
theorem eX11_isIn_5 : decode cX11_isIn 5 = .ok (.iload_n 0, 1) := by decide +kernel
theorem eX11_isIn_6 : decode cX11_isIn 6 = .ok (.iload_n 2, 1) := by decide +kernel
theorem eX11_isIn_7 : decode cX11_isIn 7 = .ok (.if_icmp .gt 7, 3) := by decide +kernel
theorem eX11_isIn_10 : decode cX11_isIn 10 = .ok (.iconst 1, 1) := by decide +kernel
theorem eX11_isIn_11 : decode cX11_isIn 11 = .ok (.goto 4, 3) := by decide +kernel
theorem eX11_isIn_14 : decode cX11_isIn 14 = .ok (.iconst 0, 1) := by decide +kernel
theorem eX11_isIn_15 : decode cX11_isIn 15 = .ok (.ireturn, 1) := by decide +kernel
def C_X11_isIn (s : ST) (p : Int) (q : Int) (u : Int) (Q : ST → Int → Prop) : Prop := bx <| RA s → R32 p → R32 q → R32 u → q_met mX11_isIn (qs layM s) [.int (Int32.ofInt p), .int (Int32.ofInt q), .int (Int32.ofInt u)] (PB layM Q)
theorem C_X11_isIn.mono {s : ST} {p : Int} {q : Int} {u : Int} {Q Q' : ST → Int → Prop} (h : C_X11_isIn s p q u Q) (hq : ∀ s v, Q s v → Q' s v) : C_X11_isIn s p q u Q' := ⟨fun hA hrp hrq hru => q_met.mono (h.1 hA hrp hrq hru) (fun _ _ => PB.mono hq), trivial⟩
set_option maxRecDepth 20000 in
theorem s_X11_isIn {s : ST} {p : Int} {q : Int} {u : Int} {Q : ST → Int → Prop} (h : RA s → R32 p → R32 q → R32 u → ((p < q → Q s 0) ∧ (¬ p < q → ((u < p → Q s 0) ∧ (¬ u < p → Q s 1))))) : C_X11_isIn s p q u Q := by
  refine ⟨?_, trivial⟩
  intro hA hrp hrq hru
  have h := h hA hrp hrq hru
  refine q_enter (by decide) (Nat.le_of_ble_eq_true rfl) ?_
  refine q_iload_n eX11_isIn_0 rfl ?_
  refine q_iload_n eX11_isIn_1 rfl ?_
  refine q_cz_lt (tgt := 14) (a := p) (b := q) eX11_isIn_2 (by decide) (ofz hrp) (ofz hrq) (fun c2 => ?_) (fun c2 => ?_)
  · have h := h.1 c2
    refine q_ic (v := Int32.ofInt 0) eX11_isIn_14 rfl ?_
    exact q_zret eX11_isIn_15 rfl (z01 (Or.inl rfl)) ⟨_, _, rfl, hA, (Or.inl rfl), rfl, h⟩
  · have h := h.2 c2
    refine q_iload_n eX11_isIn_5 rfl ?_
    refine q_iload_n eX11_isIn_6 rfl ?_
    refine q_cz_gt (tgt := 14) (a := p) (b := u) eX11_isIn_7 (by decide) (ofz hrp) (ofz hru) (fun c7 => ?_) (fun c7 => ?_)
    · have h := h.1 c7
      refine q_ic (v := Int32.ofInt 0) eX11_isIn_14 rfl ?_
      exact q_zret eX11_isIn_15 rfl (z01 (Or.inl rfl)) ⟨_, _, rfl, hA, (Or.inl rfl), rfl, h⟩
    · have h := h.2 c7
      refine q_ic (v := Int32.ofInt 1) eX11_isIn_10 rfl ?_
      refine q_goto (tgt := 15) eX11_isIn_11 (by decide) ?_
      exact q_zret eX11_isIn_15 rfl (z01 (Or.inr rfl)) ⟨_, _, rfl, hA, (Or.inr rfl), rfl, h⟩
def F_X11_isIn (s : ST) (p : Int) (q : Int) (u : Int) : Int := (if p < q then 0 else (if u < p then 0 else 1))
theorem w_X11_isIn {s : ST} {p : Int} {q : Int} {u : Int} : C_X11_isIn s p q u (fun s' v => s' = s ∧ v = F_X11_isIn s p q u) := by
  refine s_X11_isIn (fun hA hrp hrq hru => ?_)
  refine ⟨fun e0 => ?_, fun e0 => ?_⟩
  · exact ⟨rfl, by unfold F_X11_isIn; rw [if_pos e0]⟩
  · refine ⟨fun e1 => ?_, fun e1 => ?_⟩
    · exact ⟨rfl, by unfold F_X11_isIn; rw [if_neg e0, if_pos e1]⟩
    · exact ⟨rfl, by unfold F_X11_isIn; rw [if_neg e0, if_neg e1]⟩
theorem p_X11_isIn {s : ST} {p : Int} {q : Int} {u : Int} : RA s → R32 p → R32 q → R32 u → q_met mX11_isIn (qs layM s) [.int (Int32.ofInt p), .int (Int32.ofInt q), .int (Int32.ofInt u)] (fun σ r => (F_X11_isIn s p q u = 0 ∨ F_X11_isIn s p q u = 1) ∧ σ = qs layM s ∧ r = some (.int (Int32.ofInt (F_X11_isIn s p q u)))) := fun hA hrp hrq hru => q_met.mono ((w_X11_isIn).1 hA hrp hrq hru) (by
  rintro _ _ ⟨s1, v1, rfl, h1, h2, rfl, rfl, rfl⟩
  exact ⟨h2, rfl, rfl⟩)
theorem n_X11_isIn {s : ST} {p : Int} {q : Int} {u : Int} : ¬ F_X11_isIn s p q u = 0 ↔ (¬ p < q ∧ ¬ u < p) := by
  unfold F_X11_isIn
  first | omega | ((repeat' split) <;> simp_all) | ((repeat' split) <;> (simp_all <;> omega))
theorem eX11_isPlace_0 : decode cX11_isPlace 0 = .ok (.iload_n 1, 1) := by decide +kernel
theorem eX11_isPlace_1 : decode cX11_isPlace 1 = .ok (.iconst 0, 1) := by decide +kernel
theorem eX11_isPlace_2 : decode cX11_isPlace 2 = .ok (.aload_n 0, 1) := by decide +kernel
theorem eX11_isPlace_3 : decode cX11_isPlace 3 = .ok (.getfield 20, 3) := by decide +kernel
theorem eX11_isPlace_6 : decode cX11_isPlace 6 = .ok (.aload_n 0, 1) := by decide +kernel
theorem eX11_isPlace_7 : decode cX11_isPlace 7 = .ok (.getfield 321, 3) := by decide +kernel
theorem eX11_isPlace_10 : decode cX11_isPlace 10 = .ok (.iaload, 1) := by decide +kernel
theorem eX11_isPlace_11 : decode cX11_isPlace 11 = .ok (.iconst 1, 1) := by decide +kernel
theorem eX11_isPlace_12 : decode cX11_isPlace 12 = .ok (.isub, 1) := by decide +kernel
theorem eX11_isPlace_13 : decode cX11_isPlace 13 = .ok (.invokestatic 379, 3) := by decide +kernel
theorem eX11_isPlace_16 : decode cX11_isPlace 16 = .ok (.ireturn, 1) := by decide +kernel
def C_X11_isPlace (s : ST) (p : Int) (Q : ST → Int → Prop) : Prop := bx <| RA s → R32 p → q_met mX11_isPlace (qs layM s) [.ref 139, .int (Int32.ofInt p)] (PB layM Q)
theorem C_X11_isPlace.mono {s : ST} {p : Int} {Q Q' : ST → Int → Prop} (h : C_X11_isPlace s p Q) (hq : ∀ s v, Q s v → Q' s v) : C_X11_isPlace s p Q' := ⟨fun hA hrp => q_met.mono (h.1 hA hrp) (fun _ _ => PB.mono hq), trivial⟩
set_option maxRecDepth 20000 in
theorem s_X11_isPlace {s : ST} {p : Int} {Q : ST → Int → Prop} (h : RA s → R32 p → (((0 : Int) ≤ s.1 139 28 ∧ s.1 139 28 < 6) ∧ (R32 (s.1 142 (s.1 139 28) - 1) ∧ Q s (F_X11_isIn s p 0 (s.1 142 (s.1 139 28) - 1))))) : C_X11_isPlace s p Q := by
  refine ⟨?_, trivial⟩
  intro hA hrp
  have h := h hA hrp
  refine q_enter (by decide) (Nat.le_of_ble_eq_true rfl) ?_
  refine q_iload_n eX11_isPlace_0 rfl ?_
  refine q_ic (v := Int32.ofInt 0) eX11_isPlace_1 rfl ?_
  refine q_aload_n eX11_isPlace_2 rfl ?_
  refine q_getR (c := 11) (n := 0) (k := 11) (a := 142) eX11_isPlace_3 rfl (by decide) (by decide) fX11_20 rfl rfl ?_
  refine q_aload_n eX11_isPlace_6 rfl ?_
  refine q_getf (c := 11) (n := 0) (k := 28) (v := .int (Int32.ofInt (s.1 139 28))) eX11_isPlace_7 rfl (by decide) (by decide) fX11_321 rfl ?_
  have f1 := h.1
  have h := h.2
  refine z_iald (n := 6) eX11_isPlace_10 rfl (ofz (hA _ _)) f1 ?_
  refine q_topI (v := Int32.ofInt (s.1 142 (s.1 139 28))) rfl ?_
  refine q_ic (v := Int32.ofInt 1) eX11_isPlace_11 rfl ?_
  refine z_isub eX11_isPlace_12 ?_
  have r2 := h.1
  have h := h.2
  refine q_S3 eX11_isPlace_13 DX11_isIn lX11_379 rfl rfl rfl (p_X11_isIn hA hrp (r32l rfl) r2) ?_
  rintro _ _ ⟨b3, rfl, rfl⟩
  exact q_zret eX11_isPlace_16 rfl (z01 b3) ⟨_, _, rfl, hA, b3, rfl, h⟩
def F_X11_isPlace (s : ST) (p : Int) : Int := (F_X11_isIn s p 0 (s.1 142 (s.1 139 28) - 1))
abbrev P_X11_isPlace (s : ST) (p : Int) : Prop := (((0 : Int) ≤ s.1 139 28 ∧ s.1 139 28 < 6) ∧ R32 (s.1 142 (s.1 139 28) - 1))
theorem w_X11_isPlace {s : ST} {p : Int} (h : P_X11_isPlace s p) : C_X11_isPlace s p (fun s' v => s' = s ∧ v = F_X11_isPlace s p) := by
  refine s_X11_isPlace (fun hA hrp => ?_)
  unfold P_X11_isPlace at h
  refine ⟨h.1, ?_⟩
  have h := h.2
  refine ⟨h, ?_⟩
  exact ⟨rfl, rfl⟩
theorem p_X11_isPlace {s : ST} {p : Int} (h : P_X11_isPlace s p) : RA s → R32 p → q_met mX11_isPlace (qs layM s) [.ref 139, .int (Int32.ofInt p)] (fun σ r => (F_X11_isPlace s p = 0 ∨ F_X11_isPlace s p = 1) ∧ σ = qs layM s ∧ r = some (.int (Int32.ofInt (F_X11_isPlace s p)))) := fun hA hrp => q_met.mono ((w_X11_isPlace h).1 hA hrp) (by
  rintro _ _ ⟨s1, v1, rfl, h1, h2, rfl, rfl, rfl⟩
  exact ⟨h2, rfl, rfl⟩)
theorem n_X11_isPlace {s : ST} {p : Int} : ¬ F_X11_isPlace s p = 0 ↔ ¬ (F_X11_isIn s p 0 (s.1 142 (s.1 139 28) - 1)) = 0 := by
  unfold F_X11_isPlace
  first | omega | ((repeat' split) <;> simp_all) | ((repeat' split) <;> (simp_all <;> omega))
theorem eX11_place_0 : decode cX11_place 0 = .ok (.aload_n 0, 1) := by decide +kernel
theorem eX11_place_1 : decode cX11_place 1 = .ok (.iload_n 1, 1) := by decide +kernel
theorem eX11_place_2 : decode cX11_place 2 = .ok (.invokevirtual 383, 3) := by decide +kernel
theorem eX11_place_5 : decode cX11_place 5 = .ok (.ifCond .ne 5, 3) := by decide +kernel
theorem eX11_place_8 : decode cX11_place 8 = .ok (.iconst (-1), 1) := by decide +kernel
theorem eX11_place_9 : decode cX11_place 9 = .ok (.ireturn, 1) := by decide +kernel
theorem eX11_place_10 : decode cX11_place 10 = .ok (.bipush 40, 2) := by decide +kernel
theorem eX11_place_12 : decode cX11_place 12 = .ok (.aload_n 0, 1) := by decide +kernel
theorem eX11_place_13 : decode cX11_place 13 = .ok (.getfield 321, 3) := by decide +kernel
theorem eX11_place_16 : decode cX11_place 16 = .ok (.imul, 1) := by decide +kernel
theorem eX11_place_17 : decode cX11_place 17 = .ok (.iload_n 1, 1) := by decide +kernel
theorem eX11_place_18 : decode cX11_place 18 = .ok (.iadd, 1) := by decide +kernel
theorem eX11_place_19 : decode cX11_place 19 = .ok (.istore_n 3, 1) := by decide +kernel
theorem eX11_place_20 : decode cX11_place 20 = .ok (.iload_n 2, 1) := by decide +kernel
theorem eX11_place_21 : decode cX11_place 21 = .ok (.tableswitch 59 0 3 #[31, 38, 45, 52], 31) := by decide +kernel
theorem eX11_place_52 : decode cX11_place 52 = .ok (.aload_n 0, 1) := by decide +kernel
theorem eX11_place_53 : decode cX11_place 53 = .ok (.getfield 33, 3) := by decide +kernel
theorem eX11_place_56 : decode cX11_place 56 = .ok (.iload_n 3, 1) := by decide +kernel
theorem eX11_place_57 : decode cX11_place 57 = .ok (.iaload, 1) := by decide +kernel
theorem eX11_place_58 : decode cX11_place 58 = .ok (.ireturn, 1) := by decide +kernel
theorem eX11_place_59 : decode cX11_place 59 = .ok (.aload_n 0, 1) := by decide +kernel
theorem eX11_place_60 : decode cX11_place 60 = .ok (.getfield 39, 3) := by decide +kernel
theorem eX11_place_63 : decode cX11_place 63 = .ok (.iload_n 3, 1) := by decide +kernel
theorem eX11_place_64 : decode cX11_place 64 = .ok (.iaload, 1) := by decide +kernel
theorem eX11_place_65 : decode cX11_place 65 = .ok (.ireturn, 1) := by decide +kernel
theorem eX11_place_66 : decode cX11_place 66 = .ok (.aload_n 0, 1) := by decide +kernel
theorem eX11_place_67 : decode cX11_place 67 = .ok (.getfield 42, 3) := by decide +kernel
theorem eX11_place_70 : decode cX11_place 70 = .ok (.iload_n 3, 1) := by decide +kernel
theorem eX11_place_71 : decode cX11_place 71 = .ok (.iaload, 1) := by decide +kernel
theorem eX11_place_72 : decode cX11_place 72 = .ok (.ireturn, 1) := by decide +kernel
theorem eX11_place_73 : decode cX11_place 73 = .ok (.aload_n 0, 1) := by decide +kernel
theorem eX11_place_74 : decode cX11_place 74 = .ok (.getfield 36, 3) := by decide +kernel
theorem eX11_place_77 : decode cX11_place 77 = .ok (.iload_n 3, 1) := by decide +kernel
theorem eX11_place_78 : decode cX11_place 78 = .ok (.iaload, 1) := by decide +kernel
theorem eX11_place_79 : decode cX11_place 79 = .ok (.ireturn, 1) := by decide +kernel
theorem eX11_place_80 : decode cX11_place 80 = .ok (.iconst (-1), 1) := by decide +kernel
theorem eX11_place_81 : decode cX11_place 81 = .ok (.ireturn, 1) := by decide +kernel
def C_X11_place (s : ST) (p : Int) (q : Int) (Q : ST → Int → Prop) : Prop := bx <| RA s → R32 p → R32 q → q_met mX11_place (qs layM s) [.ref 139, .int (Int32.ofInt p), .int (Int32.ofInt q)] (PI layM Q)
theorem C_X11_place.mono {s : ST} {p : Int} {q : Int} {Q Q' : ST → Int → Prop} (h : C_X11_place s p q Q) (hq : ∀ s v, Q s v → Q' s v) : C_X11_place s p q Q' := ⟨fun hA hrp hrq => q_met.mono (h.1 hA hrp hrq) (fun _ _ => PI.mono hq), trivial⟩
set_option maxRecDepth 20000 in
theorem s_X11_place {s : ST} {p : Int} {q : Int} {Q : ST → Int → Prop} (h : RA s → R32 p → R32 q → (P_X11_isPlace s p ∧ (((¬ (F_X11_isIn s p 0 (s.1 142 (s.1 139 28) - 1)) = 0) → (R32 (40 * s.1 139 28) ∧ (R32 ((40 * s.1 139 28) + p) ∧ ((q = 0 → (((0 : Int) ≤ ((40 * s.1 139 28) + p) ∧ ((40 * s.1 139 28) + p) < 240) ∧ Q s (s.1 146 ((40 * s.1 139 28) + p)))) ∧ (q = 1 → (((0 : Int) ≤ ((40 * s.1 139 28) + p) ∧ ((40 * s.1 139 28) + p) < 240) ∧ Q s (s.1 148 ((40 * s.1 139 28) + p)))) ∧ (q = 2 → (((0 : Int) ≤ ((40 * s.1 139 28) + p) ∧ ((40 * s.1 139 28) + p) < 240) ∧ Q s (s.1 149 ((40 * s.1 139 28) + p)))) ∧ (q = 3 → (((0 : Int) ≤ ((40 * s.1 139 28) + p) ∧ ((40 * s.1 139 28) + p) < 240) ∧ Q s (s.1 147 ((40 * s.1 139 28) + p)))) ∧ ((q < 0 ∨ 3 < q) → Q s (-1)))))) ∧ (¬ (¬ (F_X11_isIn s p 0 (s.1 142 (s.1 139 28) - 1)) = 0) → Q s (-1))))) : C_X11_place s p q Q := by
  refine ⟨?_, trivial⟩
  intro hA hrp hrq
  have h := h hA hrp hrq
  refine q_enter (by decide) (Nat.le_of_ble_eq_true rfl) ?_
  refine q_aload_n eX11_place_0 rfl ?_
  refine q_iload_n eX11_place_1 rfl ?_
  have f2 := h.1
  have h := h.2
  refine q_V1 (ci := 11) (n := 0) eX11_place_2 DX11_isPlace lX11_383 rfl (by decide) rfl rfl rfl rfl (p_X11_isPlace f2 hA hrp) ?_
  rintro _ _ ⟨b1, rfl, rfl⟩
  refine q_iz_ne (tgt := 10) (a := (F_X11_isPlace s p)) eX11_place_5 (by decide) (ofz (r01 b1)) (fun c5 => ?_) (fun c5 => ?_)
  · have h := h.1 (n_X11_isPlace.mp c5)
    refine q_bi (v := Int32.ofInt 40) eX11_place_10 rfl ?_
    refine q_aload_n eX11_place_12 rfl ?_
    refine q_getf (c := 11) (n := 0) (k := 28) (v := .int (Int32.ofInt (s.1 139 28))) eX11_place_13 rfl (by decide) (by decide) fX11_321 rfl ?_
    refine z_imul eX11_place_16 ?_
    have r3 := h.1
    have h := h.2
    refine q_iload_n eX11_place_17 rfl ?_
    refine z_iadd eX11_place_18 ?_
    have r4 := h.1
    have h := h.2
    refine q_istore_n eX11_place_19 (Nat.le_of_ble_eq_true rfl) ?_
    refine q_iload_n eX11_place_20 rfl ?_
    refine q_tab4 52 59 66 73 80 eX11_place_21 rfl rfl (by decide) (z := q) (ofz hrq) (fun c21 => ?_) (fun c21 => ?_) (fun c21 => ?_) (fun c21 => ?_) (fun c21 => ?_)
    · have h := h.1 c21
      refine q_aload_n eX11_place_52 rfl ?_
      refine q_getR (c := 11) (n := 0) (k := 15) (a := 146) eX11_place_53 rfl (by decide) (by decide) fX11_33 rfl rfl ?_
      refine q_iload_n eX11_place_56 rfl ?_
      have f5 := h.1
      have h := h.2
      refine z_iald (n := 240) eX11_place_57 rfl (ofz r4) f5 ?_
      refine q_topI (v := Int32.ofInt (s.1 146 ((40 * s.1 139 28) + p))) rfl ?_
      exact q_iret eX11_place_58 rfl ⟨_, _, rfl, hA, (hA _ _), rfl, h⟩
    · have h := h.2.1 c21
      refine q_aload_n eX11_place_59 rfl ?_
      refine q_getR (c := 11) (n := 0) (k := 17) (a := 148) eX11_place_60 rfl (by decide) (by decide) fX11_39 rfl rfl ?_
      refine q_iload_n eX11_place_63 rfl ?_
      have f6 := h.1
      have h := h.2
      refine z_iald (n := 240) eX11_place_64 rfl (ofz r4) f6 ?_
      refine q_topI (v := Int32.ofInt (s.1 148 ((40 * s.1 139 28) + p))) rfl ?_
      exact q_iret eX11_place_65 rfl ⟨_, _, rfl, hA, (hA _ _), rfl, h⟩
    · have h := h.2.2.1 c21
      refine q_aload_n eX11_place_66 rfl ?_
      refine q_getR (c := 11) (n := 0) (k := 18) (a := 149) eX11_place_67 rfl (by decide) (by decide) fX11_42 rfl rfl ?_
      refine q_iload_n eX11_place_70 rfl ?_
      have f7 := h.1
      have h := h.2
      refine z_iald (n := 240) eX11_place_71 rfl (ofz r4) f7 ?_
      refine q_topI (v := Int32.ofInt (s.1 149 ((40 * s.1 139 28) + p))) rfl ?_
      exact q_iret eX11_place_72 rfl ⟨_, _, rfl, hA, (hA _ _), rfl, h⟩
    · have h := h.2.2.2.1 c21
      refine q_aload_n eX11_place_73 rfl ?_
      refine q_getR (c := 11) (n := 0) (k := 16) (a := 147) eX11_place_74 rfl (by decide) (by decide) fX11_36 rfl rfl ?_
      refine q_iload_n eX11_place_77 rfl ?_
      have f8 := h.1
      have h := h.2
      refine z_iald (n := 240) eX11_place_78 rfl (ofz r4) f8 ?_
      refine q_topI (v := Int32.ofInt (s.1 147 ((40 * s.1 139 28) + p))) rfl ?_
      exact q_iret eX11_place_79 rfl ⟨_, _, rfl, hA, (hA _ _), rfl, h⟩
    · have h := h.2.2.2.2 c21
      refine q_ic (v := Int32.ofInt (-1)) eX11_place_80 rfl ?_
      exact q_iret eX11_place_81 rfl ⟨_, _, rfl, hA, (r32l rfl), rfl, h⟩
  · have h := h.2 (fun q => n_X11_isPlace.mpr q c5)
    refine q_ic (v := Int32.ofInt (-1)) eX11_place_8 rfl ?_
    exact q_iret eX11_place_9 rfl ⟨_, _, rfl, hA, (r32l rfl), rfl, h⟩
def F_X11_place (s : ST) (p : Int) (q : Int) : Int := (if (¬ (F_X11_isIn s p 0 (s.1 142 (s.1 139 28) - 1)) = 0) then (if q = 0 then s.1 146 ((40 * s.1 139 28) + p) else (if q = 1 then s.1 148 ((40 * s.1 139 28) + p) else (if q = 2 then s.1 149 ((40 * s.1 139 28) + p) else (if q = 3 then s.1 147 ((40 * s.1 139 28) + p) else (-1))))) else (-1))
abbrev P_X11_place (s : ST) (p : Int) (q : Int) : Prop := (P_X11_isPlace s p ∧ ((¬ (F_X11_isIn s p 0 (s.1 142 (s.1 139 28) - 1)) = 0) → (R32 (40 * s.1 139 28) ∧ R32 ((40 * s.1 139 28) + p) ∧ ((q = 0 → ((0 : Int) ≤ ((40 * s.1 139 28) + p) ∧ ((40 * s.1 139 28) + p) < 240)) ∧ (q = 1 → ((0 : Int) ≤ ((40 * s.1 139 28) + p) ∧ ((40 * s.1 139 28) + p) < 240)) ∧ (q = 2 → ((0 : Int) ≤ ((40 * s.1 139 28) + p) ∧ ((40 * s.1 139 28) + p) < 240)) ∧ (q = 3 → ((0 : Int) ≤ ((40 * s.1 139 28) + p) ∧ ((40 * s.1 139 28) + p) < 240))))))
theorem w_X11_place {s : ST} {p : Int} {q : Int} (h : P_X11_place s p q) : C_X11_place s p q (fun s' v => s' = s ∧ v = F_X11_place s p q) := by
  refine s_X11_place (fun hA hrp hrq => ?_)
  unfold P_X11_place at h
  refine ⟨h.1, ?_⟩
  have h := h.2
  refine ⟨fun e0 => ?_, fun e0 => ?_⟩
  · have h := h e0
    refine ⟨h.1, ?_⟩
    have h := h.2
    refine ⟨h.1, ?_⟩
    have h := h.2
    refine ⟨fun e1 => ?_, fun e1 => ?_, fun e1 => ?_, fun e1 => ?_, fun e1 => ?_⟩
    · have h := h.1 e1
      refine ⟨h, ?_⟩
      exact ⟨rfl, by unfold F_X11_place; rw [if_pos e0, if_pos e1]⟩
    · have h := h.2.1 e1
      refine ⟨h, ?_⟩
      exact ⟨rfl, by unfold F_X11_place; rw [if_pos e0, if_neg (by omega), if_pos e1]⟩
    · have h := h.2.2.1 e1
      refine ⟨h, ?_⟩
      exact ⟨rfl, by unfold F_X11_place; rw [if_pos e0, if_neg (by omega), if_neg (by omega), if_pos e1]⟩
    · have h := h.2.2.2 e1
      refine ⟨h, ?_⟩
      exact ⟨rfl, by unfold F_X11_place; rw [if_pos e0, if_neg (by omega), if_neg (by omega), if_neg (by omega), if_pos e1]⟩
    · exact ⟨rfl, by unfold F_X11_place; rw [if_pos e0, if_neg (by omega), if_neg (by omega), if_neg (by omega), if_neg (by omega)]⟩
  · exact ⟨rfl, by unfold F_X11_place; rw [if_neg e0]⟩
theorem p_X11_place {s : ST} {p : Int} {q : Int} (h : P_X11_place s p q) : RA s → R32 p → R32 q → q_met mX11_place (qs layM s) [.ref 139, .int (Int32.ofInt p), .int (Int32.ofInt q)] (fun σ r => R32 (F_X11_place s p q) ∧ σ = qs layM s ∧ r = some (.int (Int32.ofInt (F_X11_place s p q)))) := fun hA hrp hrq => q_met.mono ((w_X11_place h).1 hA hrp hrq) (by
  rintro _ _ ⟨s1, v1, rfl, h1, h2, rfl, rfl, rfl⟩
  exact ⟨h2, rfl, rfl⟩)
theorem eX11_term_0 : decode cX11_term 0 = .ok (.aload_n 0, 1) := by decide +kernel
theorem eX11_term_1 : decode cX11_term 1 = .ok (.getfield 79, 3) := by decide +kernel
theorem eX11_term_4 : decode cX11_term 4 = .ok (.aload_n 0, 1) := by decide +kernel
theorem eX11_term_5 : decode cX11_term 5 = .ok (.getfield 386, 3) := by decide +kernel
theorem eX11_term_8 : decode cX11_term 8 = .ok (.iload_n 1, 1) := by decide +kernel
theorem eX11_term_9 : decode cX11_term 9 = .ok (.iastore, 1) := by decide +kernel
theorem eX11_term_10 : decode cX11_term 10 = .ok (.aload_n 0, 1) := by decide +kernel
theorem eX11_term_11 : decode cX11_term 11 = .ok (.getfield 82, 3) := by decide +kernel
theorem eX11_term_14 : decode cX11_term 14 = .ok (.aload_n 0, 1) := by decide +kernel
theorem eX11_term_15 : decode cX11_term 15 = .ok (.getfield 386, 3) := by decide +kernel
theorem eX11_term_18 : decode cX11_term 18 = .ok (.iload_n 2, 1) := by decide +kernel
theorem eX11_term_19 : decode cX11_term 19 = .ok (.iastore, 1) := by decide +kernel
theorem eX11_term_20 : decode cX11_term 20 = .ok (.aload_n 0, 1) := by decide +kernel
theorem eX11_term_21 : decode cX11_term 21 = .ok (.getfield 85, 3) := by decide +kernel
theorem eX11_term_24 : decode cX11_term 24 = .ok (.aload_n 0, 1) := by decide +kernel
theorem eX11_term_25 : decode cX11_term 25 = .ok (.getfield 386, 3) := by decide +kernel
theorem eX11_term_28 : decode cX11_term 28 = .ok (.iload_n 3, 1) := by decide +kernel
theorem eX11_term_29 : decode cX11_term 29 = .ok (.iastore, 1) := by decide +kernel
theorem eX11_term_30 : decode cX11_term 30 = .ok (.aload_n 0, 1) := by decide +kernel
theorem eX11_term_31 : decode cX11_term 31 = .ok (.dup, 1) := by decide +kernel
theorem eX11_term_32 : decode cX11_term 32 = .ok (.getfield 386, 3) := by decide +kernel
theorem eX11_term_35 : decode cX11_term 35 = .ok (.iconst 1, 1) := by decide +kernel
theorem eX11_term_36 : decode cX11_term 36 = .ok (.iadd, 1) := by decide +kernel
theorem eX11_term_37 : decode cX11_term 37 = .ok (.putfield 386, 3) := by decide +kernel
theorem eX11_term_40 : decode cX11_term 40 = .ok (.aload_n 0, 1) := by decide +kernel
theorem eX11_term_41 : decode cX11_term 41 = .ok (.getfield 386, 3) := by decide +kernel
theorem eX11_term_44 : decode cX11_term 44 = .ok (.iconst 1, 1) := by decide +kernel
theorem eX11_term_45 : decode cX11_term 45 = .ok (.isub, 1) := by decide +kernel
theorem eX11_term_46 : decode cX11_term 46 = .ok (.ireturn, 1) := by decide +kernel
def C_X11_term (s : ST) (p : Int) (q : Int) (u : Int) (Q : ST → Int → Prop) : Prop := bx <| RA s → R32 p → R32 q → R32 u → q_met mX11_term (qs layM s) [.ref 139, .int (Int32.ofInt p), .int (Int32.ofInt q), .int (Int32.ofInt u)] (PI layM Q)
theorem C_X11_term.mono {s : ST} {p : Int} {q : Int} {u : Int} {Q Q' : ST → Int → Prop} (h : C_X11_term s p q u Q) (hq : ∀ s v, Q s v → Q' s v) : C_X11_term s p q u Q' := ⟨fun hA hrp hrq hru => q_met.mono (h.1 hA hrp hrq hru) (fun _ _ => PI.mono hq), trivial⟩
set_option maxRecDepth 20000 in
theorem s_X11_term {s : ST} {p : Int} {q : Int} {u : Int} {Q : ST → Int → Prop} (h : RA s → R32 p → R32 q → R32 u → (((0 : Int) ≤ s.1 139 46 ∧ s.1 139 46 < 12000) ∧ (R32 (s.1 139 46 + 1) ∧ (R32 ((s.1 139 46 + 1) - 1) ∧ Q (ui (ui (ui (ui s 161 (s.1 139 46) p) 162 (s.1 139 46) q) 163 (s.1 139 46) u) 139 46 (s.1 139 46 + 1)) ((s.1 139 46 + 1) - 1))))) : C_X11_term s p q u Q := by
  refine ⟨?_, trivial⟩
  intro hA hrp hrq hru
  have h := h hA hrp hrq hru
  refine q_enter (by decide) (Nat.le_of_ble_eq_true rfl) ?_
  refine q_aload_n eX11_term_0 rfl ?_
  refine q_getR (c := 11) (n := 0) (k := 33) (a := 161) eX11_term_1 rfl (by decide) (by decide) fX11_79 rfl rfl ?_
  refine q_aload_n eX11_term_4 rfl ?_
  refine q_getf (c := 11) (n := 0) (k := 46) (v := .int (Int32.ofInt (s.1 139 46))) eX11_term_5 rfl (by decide) (by decide) fX11_386 rfl ?_
  refine q_iload_n eX11_term_8 rfl ?_
  have f1 := h.1
  have h := h.2
  refine z_iast (n := 12000) eX11_term_9 rfl (ofz (hA _ _)) f1  ?_
  refine q_aload_n eX11_term_10 rfl ?_
  refine q_getR (c := 11) (n := 0) (k := 34) (a := 162) eX11_term_11 rfl (by decide) (by decide) fX11_82 rfl rfl ?_
  refine q_aload_n eX11_term_14 rfl ?_
  refine q_getf (c := 11) (n := 0) (k := 46) (v := .int (Int32.ofInt (s.1 139 46))) eX11_term_15 rfl (by decide) (by decide) fX11_386 rfl ?_
  refine q_iload_n eX11_term_18 rfl ?_
  refine z_iast (n := 12000) eX11_term_19 rfl (ofz (hA _ _)) f1  ?_
  refine q_aload_n eX11_term_20 rfl ?_
  refine q_getR (c := 11) (n := 0) (k := 35) (a := 163) eX11_term_21 rfl (by decide) (by decide) fX11_85 rfl rfl ?_
  refine q_aload_n eX11_term_24 rfl ?_
  refine q_getf (c := 11) (n := 0) (k := 46) (v := .int (Int32.ofInt (s.1 139 46))) eX11_term_25 rfl (by decide) (by decide) fX11_386 rfl ?_
  refine q_iload_n eX11_term_28 rfl ?_
  refine z_iast (n := 12000) eX11_term_29 rfl (ofz (hA _ _)) f1  ?_
  refine q_aload_n eX11_term_30 rfl ?_
  refine q_dup eX11_term_31 rfl ?_
  refine q_getf (c := 11) (n := 0) (k := 46) (v := .int (Int32.ofInt (s.1 139 46))) eX11_term_32 rfl (by decide) (by decide) fX11_386 rfl ?_
  refine q_ic (v := Int32.ofInt 1) eX11_term_35 rfl ?_
  refine z_iadd eX11_term_36 ?_
  have r2 := h.1
  have h := h.2
  refine z_putI (c := 11) (n := 0) (k := 46) (kz := 46) eX11_term_37 rfl (by decide) (by decide) fX11_386 rfl rfl rfl ?_
  refine q_aload_n eX11_term_40 rfl ?_
  refine q_getf (c := 11) (n := 0) (k := 46) (v := .int (Int32.ofInt (s.1 139 46 + 1))) eX11_term_41 rfl (by decide) (by decide) fX11_386 rfl ?_
  refine q_ic (v := Int32.ofInt 1) eX11_term_44 rfl ?_
  refine z_isub eX11_term_45 ?_
  have r3 := h.1
  have h := h.2
  exact q_iret eX11_term_46 rfl ⟨_, _, rfl, (ra_ui (ra_ui (ra_ui (ra_ui hA hrp) hrq) hru) r2), r3, rfl, h⟩
theorem eX11_openTerm_0 : decode cX11_openTerm 0 = .ok (.aload_n 0, 1) := by decide +kernel
theorem eX11_openTerm_1 : decode cX11_openTerm 1 = .ok (.iconst 2, 1) := by decide +kernel
theorem eX11_openTerm_2 : decode cX11_openTerm 2 = .ok (.iconst 0, 1) := by decide +kernel
theorem eX11_openTerm_3 : decode cX11_openTerm 3 = .ok (.iconst 0, 1) := by decide +kernel
theorem eX11_openTerm_4 : decode cX11_openTerm 4 = .ok (.invokevirtual 389, 3) := by decide +kernel
theorem eX11_openTerm_7 : decode cX11_openTerm 7 = .ok (.ireturn, 1) := by decide +kernel
def C_X11_openTerm (s : ST) (Q : ST → Int → Prop) : Prop := bx <| RA s → q_met mX11_openTerm (qs layM s) [.ref 139] (PI layM Q)
theorem C_X11_openTerm.mono {s : ST} {Q Q' : ST → Int → Prop} (h : C_X11_openTerm s Q) (hq : ∀ s v, Q s v → Q' s v) : C_X11_openTerm s Q' := ⟨fun hA => q_met.mono (h.1 hA) (fun _ _ => PI.mono hq), trivial⟩
set_option maxRecDepth 20000 in
theorem s_X11_openTerm {s : ST} {Q : ST → Int → Prop} (h : RA s → (C_X11_term s 2 0 0 (fun s1 v1 => Q s1 v1))) : C_X11_openTerm s Q := by
  refine ⟨?_, trivial⟩
  intro hA
  have h := h hA
  refine q_enter (by decide) (Nat.le_of_ble_eq_true rfl) ?_
  refine q_aload_n eX11_openTerm_0 rfl ?_
  refine q_ic (v := Int32.ofInt 2) eX11_openTerm_1 rfl ?_
  refine q_ic (v := Int32.ofInt 0) eX11_openTerm_2 rfl ?_
  refine q_ic (v := Int32.ofInt 0) eX11_openTerm_3 rfl ?_
  refine q_V3 (ci := 11) (n := 0) eX11_openTerm_4 DX11_term lX11_389 rfl (by decide) rfl rfl rfl rfl (h.1 hA (r32l rfl) (r32l rfl) (r32l rfl)) ?_
  rintro _ _ ⟨s1, v1, rfl, hA1, r1, rfl, h⟩
  exact q_iret eX11_openTerm_7 rfl ⟨_, _, rfl, hA1, r1, rfl, h⟩
theorem eX11_ask_0 : decode cX11_ask 0 = .ok (.aload_n 0, 1) := by decide +kernel
theorem eX11_ask_1 : decode cX11_ask 1 = .ok (.getfield 97, 3) := by decide +kernel
theorem eX11_ask_4 : decode cX11_ask 4 = .ok (.aload_n 0, 1) := by decide +kernel
theorem eX11_ask_5 : decode cX11_ask 5 = .ok (.getfield 393, 3) := by decide +kernel
theorem eX11_ask_8 : decode cX11_ask 8 = .ok (.iload_n 1, 1) := by decide +kernel
theorem eX11_ask_9 : decode cX11_ask 9 = .ok (.iastore, 1) := by decide +kernel
theorem eX11_ask_10 : decode cX11_ask 10 = .ok (.aload_n 0, 1) := by decide +kernel
theorem eX11_ask_11 : decode cX11_ask 11 = .ok (.getfield 100, 3) := by decide +kernel
theorem eX11_ask_14 : decode cX11_ask 14 = .ok (.aload_n 0, 1) := by decide +kernel
theorem eX11_ask_15 : decode cX11_ask 15 = .ok (.getfield 393, 3) := by decide +kernel
theorem eX11_ask_18 : decode cX11_ask 18 = .ok (.iload_n 2, 1) := by decide +kernel
theorem eX11_ask_19 : decode cX11_ask 19 = .ok (.iastore, 1) := by decide +kernel
theorem eX11_ask_20 : decode cX11_ask 20 = .ok (.aload_n 0, 1) := by decide +kernel
theorem eX11_ask_21 : decode cX11_ask 21 = .ok (.getfield 103, 3) := by decide +kernel
theorem eX11_ask_24 : decode cX11_ask 24 = .ok (.aload_n 0, 1) := by decide +kernel
theorem eX11_ask_25 : decode cX11_ask 25 = .ok (.getfield 393, 3) := by decide +kernel
theorem eX11_ask_28 : decode cX11_ask 28 = .ok (.iload_n 3, 1) := by decide +kernel
theorem eX11_ask_29 : decode cX11_ask 29 = .ok (.iastore, 1) := by decide +kernel
theorem eX11_ask_30 : decode cX11_ask 30 = .ok (.aload_n 0, 1) := by decide +kernel
theorem eX11_ask_31 : decode cX11_ask 31 = .ok (.dup, 1) := by decide +kernel
theorem eX11_ask_32 : decode cX11_ask 32 = .ok (.getfield 393, 3) := by decide +kernel
theorem eX11_ask_35 : decode cX11_ask 35 = .ok (.iconst 1, 1) := by decide +kernel
theorem eX11_ask_36 : decode cX11_ask 36 = .ok (.iadd, 1) := by decide +kernel
theorem eX11_ask_37 : decode cX11_ask 37 = .ok (.putfield 393, 3) := by decide +kernel
theorem eX11_ask_40 : decode cX11_ask 40 = .ok (.return_, 1) := by decide +kernel
def C_X11_ask (s : ST) (p : Int) (q : Int) (u : Int) (Q : ST → Prop) : Prop := bx <| RA s → R32 p → R32 q → R32 u → q_met mX11_ask (qs layM s) [.ref 139, .int (Int32.ofInt p), .int (Int32.ofInt q), .int (Int32.ofInt u)] (PV layM Q)
theorem C_X11_ask.mono {s : ST} {p : Int} {q : Int} {u : Int} {Q Q' : ST → Prop} (h : C_X11_ask s p q u Q) (hq : ∀ s, Q s → Q' s) : C_X11_ask s p q u Q' := ⟨fun hA hrp hrq hru => q_met.mono (h.1 hA hrp hrq hru) (fun _ _ => PV.mono hq), trivial⟩
set_option maxRecDepth 20000 in
theorem s_X11_ask {s : ST} {p : Int} {q : Int} {u : Int} {Q : ST → Prop} (h : RA s → R32 p → R32 q → R32 u → (((0 : Int) ≤ s.1 139 47 ∧ s.1 139 47 < 1300) ∧ (R32 (s.1 139 47 + 1) ∧ Q (ui (ui (ui (ui s 167 (s.1 139 47) p) 168 (s.1 139 47) q) 169 (s.1 139 47) u) 139 47 (s.1 139 47 + 1))))) : C_X11_ask s p q u Q := by
  refine ⟨?_, trivial⟩
  intro hA hrp hrq hru
  have h := h hA hrp hrq hru
  refine q_enter (by decide) (Nat.le_of_ble_eq_true rfl) ?_
  refine q_aload_n eX11_ask_0 rfl ?_
  refine q_getR (c := 11) (n := 0) (k := 39) (a := 167) eX11_ask_1 rfl (by decide) (by decide) fX11_97 rfl rfl ?_
  refine q_aload_n eX11_ask_4 rfl ?_
  refine q_getf (c := 11) (n := 0) (k := 47) (v := .int (Int32.ofInt (s.1 139 47))) eX11_ask_5 rfl (by decide) (by decide) fX11_393 rfl ?_
  refine q_iload_n eX11_ask_8 rfl ?_
  have f1 := h.1
  have h := h.2
  refine z_iast (n := 1300) eX11_ask_9 rfl (ofz (hA _ _)) f1  ?_
  refine q_aload_n eX11_ask_10 rfl ?_
  refine q_getR (c := 11) (n := 0) (k := 40) (a := 168) eX11_ask_11 rfl (by decide) (by decide) fX11_100 rfl rfl ?_
  refine q_aload_n eX11_ask_14 rfl ?_
  refine q_getf (c := 11) (n := 0) (k := 47) (v := .int (Int32.ofInt (s.1 139 47))) eX11_ask_15 rfl (by decide) (by decide) fX11_393 rfl ?_
  refine q_iload_n eX11_ask_18 rfl ?_
  refine z_iast (n := 1300) eX11_ask_19 rfl (ofz (hA _ _)) f1  ?_
  refine q_aload_n eX11_ask_20 rfl ?_
  refine q_getR (c := 11) (n := 0) (k := 41) (a := 169) eX11_ask_21 rfl (by decide) (by decide) fX11_103 rfl rfl ?_
  refine q_aload_n eX11_ask_24 rfl ?_
  refine q_getf (c := 11) (n := 0) (k := 47) (v := .int (Int32.ofInt (s.1 139 47))) eX11_ask_25 rfl (by decide) (by decide) fX11_393 rfl ?_
  refine q_iload_n eX11_ask_28 rfl ?_
  refine z_iast (n := 1300) eX11_ask_29 rfl (ofz (hA _ _)) f1  ?_
  refine q_aload_n eX11_ask_30 rfl ?_
  refine q_dup eX11_ask_31 rfl ?_
  refine q_getf (c := 11) (n := 0) (k := 47) (v := .int (Int32.ofInt (s.1 139 47))) eX11_ask_32 rfl (by decide) (by decide) fX11_393 rfl ?_
  refine q_ic (v := Int32.ofInt 1) eX11_ask_35 rfl ?_
  refine z_iadd eX11_ask_36 ?_
  have r2 := h.1
  have h := h.2
  refine z_putI (c := 11) (n := 0) (k := 47) (kz := 47) eX11_ask_37 rfl (by decide) (by decide) fX11_393 rfl rfl rfl ?_
  exact q_ret eX11_ask_40 rfl ⟨_, rfl, (ra_ui (ra_ui (ra_ui (ra_ui hA hrp) hrq) hru) r2), rfl, h⟩
