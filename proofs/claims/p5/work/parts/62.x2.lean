/-! STEP ROWS of the class. By program (wip/wp/gen_parts.py). -/
theorem eX4_hasRing_0 : decode cX4_hasRing 0 = .ok (.iconst 0, 1) := by decide +kernel
theorem eX4_hasRing_1 : decode cX4_hasRing 1 = .ok (.istore_n 1, 1) := by decide +kernel
theorem eX4_hasRing_2 : decode cX4_hasRing 2 = .ok (.iconst 0, 1) := by decide +kernel
theorem eX4_hasRing_3 : decode cX4_hasRing 3 = .ok (.istore_n 2, 1) := by decide +kernel
theorem eX4_hasRing_4 : decode cX4_hasRing 4 = .ok (.iload_n 2, 1) := by decide +kernel
theorem eX4_hasRing_5 : decode cX4_hasRing 5 = .ok (.aload_n 0, 1) := by decide +kernel
theorem eX4_hasRing_6 : decode cX4_hasRing 6 = .ok (.getfield 33, 3) := by decide +kernel
theorem eX4_hasRing_9 : decode cX4_hasRing 9 = .ok (.if_icmp .ge 23, 3) := by decide +kernel
theorem eX4_hasRing_12 : decode cX4_hasRing 12 = .ok (.iload_n 2, 1) := by decide +kernel
theorem eX4_hasRing_13 : decode cX4_hasRing 13 = .ok (.sipush 5602, 3) := by decide +kernel
theorem eX4_hasRing_16 : decode cX4_hasRing 16 = .ok (.if_icmp .ge 16, 3) := by decide +kernel
theorem eX4_hasRing_19 : decode cX4_hasRing 19 = .ok (.aload_n 0, 1) := by decide +kernel
theorem eX4_hasRing_20 : decode cX4_hasRing 20 = .ok (.getfield 24, 3) := by decide +kernel
theorem eX4_hasRing_23 : decode cX4_hasRing 23 = .ok (.iload_n 2, 1) := by decide +kernel
theorem eX4_hasRing_24 : decode cX4_hasRing 24 = .ok (.iconst 0, 1) := by decide +kernel
theorem eX4_hasRing_25 : decode cX4_hasRing 25 = .ok (.iastore, 1) := by decide +kernel
theorem eX4_hasRing_26 : decode cX4_hasRing 26 = .ok (.iinc 2 1, 3) := by decide +kernel
theorem eX4_hasRing_29 : decode cX4_hasRing 29 = .ok (.goto (-25), 3) := by decide +kernel
theorem eX4_hasRing_32 : decode cX4_hasRing 32 = .ok (.iconst 0, 1) := by decide +kernel
theorem eX4_hasRing_33 : decode cX4_hasRing 33 = .ok (.istore_n 2, 1) := by decide +kernel
theorem eX4_hasRing_34 : decode cX4_hasRing 34 = .ok (.iload_n 2, 1) := by decide +kernel
theorem eX4_hasRing_35 : decode cX4_hasRing 35 = .ok (.aload_n 0, 1) := by decide +kernel
theorem eX4_hasRing_36 : decode cX4_hasRing 36 = .ok (.getfield 33, 3) := by decide +kernel
theorem eX4_hasRing_39 : decode cX4_hasRing 39 = .ok (.if_icmp .ge 49, 3) := by decide +kernel
theorem eX4_hasRing_42 : decode cX4_hasRing 42 = .ok (.iload_n 2, 1) := by decide +kernel
theorem eX4_hasRing_43 : decode cX4_hasRing 43 = .ok (.sipush 5602, 3) := by decide +kernel
theorem eX4_hasRing_46 : decode cX4_hasRing 46 = .ok (.if_icmp .ge 42, 3) := by decide +kernel
theorem eX4_hasRing_49 : decode cX4_hasRing 49 = .ok (.aload_n 0, 1) := by decide +kernel
theorem eX4_hasRing_50 : decode cX4_hasRing 50 = .ok (.getfield 11, 3) := by decide +kernel
theorem eX4_hasRing_53 : decode cX4_hasRing 53 = .ok (.iload_n 2, 1) := by decide +kernel
theorem eX4_hasRing_54 : decode cX4_hasRing 54 = .ok (.iaload, 1) := by decide +kernel
theorem eX4_hasRing_55 : decode cX4_hasRing 55 = .ok (.iload_n 2, 1) := by decide +kernel
theorem eX4_hasRing_56 : decode cX4_hasRing 56 = .ok (.if_icmp .ne 26, 3) := by decide +kernel
theorem eX4_hasRing_59 : decode cX4_hasRing 59 = .ok (.iinc 1 1, 3) := by decide +kernel
theorem eX4_hasRing_62 : decode cX4_hasRing 62 = .ok (.aload_n 0, 1) := by decide +kernel
theorem eX4_hasRing_63 : decode cX4_hasRing 63 = .ok (.aload_n 0, 1) := by decide +kernel
theorem eX4_hasRing_64 : decode cX4_hasRing 64 = .ok (.getfield 18, 3) := by decide +kernel
theorem eX4_hasRing_67 : decode cX4_hasRing 67 = .ok (.iload_n 2, 1) := by decide +kernel
theorem eX4_hasRing_68 : decode cX4_hasRing 68 = .ok (.iaload, 1) := by decide +kernel
theorem eX4_hasRing_69 : decode cX4_hasRing 69 = .ok (.invokevirtual 58, 3) := by decide +kernel
theorem eX4_hasRing_72 : decode cX4_hasRing 72 = .ok (.aload_n 0, 1) := by decide +kernel
theorem eX4_hasRing_73 : decode cX4_hasRing 73 = .ok (.aload_n 0, 1) := by decide +kernel
theorem eX4_hasRing_74 : decode cX4_hasRing 74 = .ok (.getfield 21, 3) := by decide +kernel
theorem eX4_hasRing_77 : decode cX4_hasRing 77 = .ok (.iload_n 2, 1) := by decide +kernel
theorem eX4_hasRing_78 : decode cX4_hasRing 78 = .ok (.iaload, 1) := by decide +kernel
theorem eX4_hasRing_79 : decode cX4_hasRing 79 = .ok (.invokevirtual 58, 3) := by decide +kernel
theorem eX4_hasRing_82 : decode cX4_hasRing 82 = .ok (.iinc 2 1, 3) := by decide +kernel
theorem eX4_hasRing_85 : decode cX4_hasRing 85 = .ok (.goto (-51), 3) := by decide +kernel
theorem eX4_hasRing_88 : decode cX4_hasRing 88 = .ok (.iconst 0, 1) := by decide +kernel
theorem eX4_hasRing_89 : decode cX4_hasRing 89 = .ok (.istore_n 2, 1) := by decide +kernel
theorem eX4_hasRing_90 : decode cX4_hasRing 90 = .ok (.iconst 0, 1) := by decide +kernel
theorem eX4_hasRing_91 : decode cX4_hasRing 91 = .ok (.istore_n 3, 1) := by decide +kernel
theorem eX4_hasRing_92 : decode cX4_hasRing 92 = .ok (.iload_n 3, 1) := by decide +kernel
theorem eX4_hasRing_93 : decode cX4_hasRing 93 = .ok (.aload_n 0, 1) := by decide +kernel
theorem eX4_hasRing_94 : decode cX4_hasRing 94 = .ok (.getfield 33, 3) := by decide +kernel
theorem eX4_hasRing_97 : decode cX4_hasRing 97 = .ok (.if_icmp .ge 45, 3) := by decide +kernel
theorem eX4_hasRing_100 : decode cX4_hasRing 100 = .ok (.iload_n 3, 1) := by decide +kernel
theorem eX4_hasRing_101 : decode cX4_hasRing 101 = .ok (.sipush 5602, 3) := by decide +kernel
theorem eX4_hasRing_104 : decode cX4_hasRing 104 = .ok (.if_icmp .ge 38, 3) := by decide +kernel
theorem eX4_hasRing_107 : decode cX4_hasRing 107 = .ok (.aload_n 0, 1) := by decide +kernel
theorem eX4_hasRing_108 : decode cX4_hasRing 108 = .ok (.getfield 11, 3) := by decide +kernel
theorem eX4_hasRing_111 : decode cX4_hasRing 111 = .ok (.iload_n 3, 1) := by decide +kernel
theorem eX4_hasRing_112 : decode cX4_hasRing 112 = .ok (.iaload, 1) := by decide +kernel
theorem eX4_hasRing_113 : decode cX4_hasRing 113 = .ok (.iload_n 3, 1) := by decide +kernel
theorem eX4_hasRing_114 : decode cX4_hasRing 114 = .ok (.if_icmp .ne 22, 3) := by decide +kernel
theorem eX4_hasRing_117 : decode cX4_hasRing 117 = .ok (.aload_n 0, 1) := by decide +kernel
theorem eX4_hasRing_118 : decode cX4_hasRing 118 = .ok (.getfield 24, 3) := by decide +kernel
theorem eX4_hasRing_121 : decode cX4_hasRing 121 = .ok (.iload_n 3, 1) := by decide +kernel
theorem eX4_hasRing_122 : decode cX4_hasRing 122 = .ok (.iaload, 1) := by decide +kernel
theorem eX4_hasRing_123 : decode cX4_hasRing 123 = .ok (.ifCond .ne 13, 3) := by decide +kernel
theorem eX4_hasRing_126 : decode cX4_hasRing 126 = .ok (.aload_n 0, 1) := by decide +kernel
theorem eX4_hasRing_127 : decode cX4_hasRing 127 = .ok (.getfield 27, 3) := by decide +kernel
theorem eX4_hasRing_130 : decode cX4_hasRing 130 = .ok (.iload_n 2, 1) := by decide +kernel
theorem eX4_hasRing_131 : decode cX4_hasRing 131 = .ok (.iload_n 3, 1) := by decide +kernel
theorem eX4_hasRing_132 : decode cX4_hasRing 132 = .ok (.iastore, 1) := by decide +kernel
theorem eX4_hasRing_133 : decode cX4_hasRing 133 = .ok (.iinc 2 1, 3) := by decide +kernel
theorem eX4_hasRing_136 : decode cX4_hasRing 136 = .ok (.iinc 3 1, 3) := by decide +kernel
theorem eX4_hasRing_139 : decode cX4_hasRing 139 = .ok (.goto (-47), 3) := by decide +kernel
theorem eX4_hasRing_142 : decode cX4_hasRing 142 = .ok (.iconst 0, 1) := by decide +kernel
theorem eX4_hasRing_143 : decode cX4_hasRing 143 = .ok (.istore_n 3, 1) := by decide +kernel
theorem eX4_hasRing_144 : decode cX4_hasRing 144 = .ok (.iload_n 3, 1) := by decide +kernel
theorem eX4_hasRing_145 : decode cX4_hasRing 145 = .ok (.iload_n 2, 1) := by decide +kernel
theorem eX4_hasRing_146 : decode cX4_hasRing 146 = .ok (.if_icmp .ge 50, 3) := by decide +kernel
theorem eX4_hasRing_149 : decode cX4_hasRing 149 = .ok (.iload_n 3, 1) := by decide +kernel
theorem eX4_hasRing_150 : decode cX4_hasRing 150 = .ok (.sipush 5602, 3) := by decide +kernel
theorem eX4_hasRing_153 : decode cX4_hasRing 153 = .ok (.if_icmp .ge 43, 3) := by decide +kernel
theorem eX4_hasRing_156 : decode cX4_hasRing 156 = .ok (.aload_n 0, 1) := by decide +kernel
theorem eX4_hasRing_157 : decode cX4_hasRing 157 = .ok (.aload_n 0, 1) := by decide +kernel
theorem eX4_hasRing_158 : decode cX4_hasRing 158 = .ok (.getfield 18, 3) := by decide +kernel
theorem eX4_hasRing_161 : decode cX4_hasRing 161 = .ok (.aload_n 0, 1) := by decide +kernel
theorem eX4_hasRing_162 : decode cX4_hasRing 162 = .ok (.getfield 27, 3) := by decide +kernel
theorem eX4_hasRing_165 : decode cX4_hasRing 165 = .ok (.iload_n 3, 1) := by decide +kernel
theorem eX4_hasRing_166 : decode cX4_hasRing 166 = .ok (.iaload, 1) := by decide +kernel
theorem eX4_hasRing_167 : decode cX4_hasRing 167 = .ok (.iaload, 1) := by decide +kernel
theorem eX4_hasRing_168 : decode cX4_hasRing 168 = .ok (.iload_n 2, 1) := by decide +kernel
theorem eX4_hasRing_169 : decode cX4_hasRing 169 = .ok (.invokevirtual 62, 3) := by decide +kernel
theorem eX4_hasRing_172 : decode cX4_hasRing 172 = .ok (.istore_n 2, 1) := by decide +kernel
theorem eX4_hasRing_173 : decode cX4_hasRing 173 = .ok (.aload_n 0, 1) := by decide +kernel
theorem eX4_hasRing_174 : decode cX4_hasRing 174 = .ok (.aload_n 0, 1) := by decide +kernel
theorem eX4_hasRing_175 : decode cX4_hasRing 175 = .ok (.getfield 21, 3) := by decide +kernel
theorem eX4_hasRing_178 : decode cX4_hasRing 178 = .ok (.aload_n 0, 1) := by decide +kernel
theorem eX4_hasRing_179 : decode cX4_hasRing 179 = .ok (.getfield 27, 3) := by decide +kernel
theorem eX4_hasRing_182 : decode cX4_hasRing 182 = .ok (.iload_n 3, 1) := by decide +kernel
theorem eX4_hasRing_183 : decode cX4_hasRing 183 = .ok (.iaload, 1) := by decide +kernel
theorem eX4_hasRing_184 : decode cX4_hasRing 184 = .ok (.iaload, 1) := by decide +kernel
theorem eX4_hasRing_185 : decode cX4_hasRing 185 = .ok (.iload_n 2, 1) := by decide +kernel
theorem eX4_hasRing_186 : decode cX4_hasRing 186 = .ok (.invokevirtual 62, 3) := by decide +kernel
theorem eX4_hasRing_189 : decode cX4_hasRing 189 = .ok (.istore_n 2, 1) := by decide +kernel
theorem eX4_hasRing_190 : decode cX4_hasRing 190 = .ok (.iinc 3 1, 3) := by decide +kernel
theorem eX4_hasRing_193 : decode cX4_hasRing 193 = .ok (.goto (-49), 3) := by decide +kernel
theorem eX4_hasRing_196 : decode cX4_hasRing 196 = .ok (.iload_n 2, 1) := by decide +kernel
theorem eX4_hasRing_197 : decode cX4_hasRing 197 = .ok (.iload_n 1, 1) := by decide +kernel
theorem eX4_hasRing_198 : decode cX4_hasRing 198 = .ok (.if_icmp .ge 7, 3) := by decide +kernel
theorem eX4_hasRing_201 : decode cX4_hasRing 201 = .ok (.iconst 1, 1) := by decide +kernel
theorem eX4_hasRing_202 : decode cX4_hasRing 202 = .ok (.goto 4, 3) := by decide +kernel
theorem eX4_hasRing_205 : decode cX4_hasRing 205 = .ok (.iconst 0, 1) := by decide +kernel
theorem eX4_hasRing_206 : decode cX4_hasRing 206 = .ok (.ireturn, 1) := by decide +kernel
def C_X4_hasRing (s : ST) (Q : ST → Int → Prop) : Prop := bx <| RA s → q_met mX4_hasRing (qs layX s) [.ref 38] (PB layX Q)
theorem C_X4_hasRing.mono {s : ST} {Q Q' : ST → Int → Prop} (h : C_X4_hasRing s Q) (hq : ∀ s v, Q s v → Q' s v) : C_X4_hasRing s Q' := ⟨fun hA => q_met.mono (h.1 hA) (fun _ _ => PB.mono hq), trivial⟩
def K_X4_hasRing_196 (s : ST) (a1 : Int) (a2 : Int) (Q : ST → Int → Prop) : Prop := bx <| RA s → R32 a1 → R32 a2 → q_K mX4_hasRing (qs layX s) 0 0 196 [(1, .int (Int32.ofInt a1)), (2, .int (Int32.ofInt a2))] [] (q_fin mX4_hasRing (PB layX Q))
def K_X4_hasRing_144 (s : ST) (a1 : Int) (a2 : Int) (a3 : Int) (Q : ST → Int → Prop) : Prop := bx <| RA s → R32 a1 → R32 a2 → R32 a3 → q_K mX4_hasRing (qs layX s) 0 0 144 [(0, .ref 38), (1, .int (Int32.ofInt a1)), (2, .int (Int32.ofInt a2)), (3, .int (Int32.ofInt a3))] [] (q_fin mX4_hasRing (PB layX Q))
def K_X4_hasRing_92 (s : ST) (a1 : Int) (a2 : Int) (a3 : Int) (Q : ST → Int → Prop) : Prop := bx <| RA s → R32 a1 → R32 a2 → R32 a3 → q_K mX4_hasRing (qs layX s) 0 0 92 [(0, .ref 38), (1, .int (Int32.ofInt a1)), (2, .int (Int32.ofInt a2)), (3, .int (Int32.ofInt a3))] [] (q_fin mX4_hasRing (PB layX Q))
def K_X4_hasRing_34 (s : ST) (a1 : Int) (a2 : Int) (Q : ST → Int → Prop) : Prop := bx <| RA s → R32 a1 → R32 a2 → q_K mX4_hasRing (qs layX s) 0 0 34 [(0, .ref 38), (1, .int (Int32.ofInt a1)), (2, .int (Int32.ofInt a2))] [] (q_fin mX4_hasRing (PB layX Q))
def K_X4_hasRing_4 (s : ST) (a1 : Int) (a2 : Int) (Q : ST → Int → Prop) : Prop := bx <| RA s → R32 a1 → R32 a2 → q_K mX4_hasRing (qs layX s) 0 0 4 [(0, .ref 38), (1, .int (Int32.ofInt a1)), (2, .int (Int32.ofInt a2))] [] (q_fin mX4_hasRing (PB layX Q))
set_option maxRecDepth 20000 in
theorem s_X4_hasRing_196 {s : ST} {a1 : Int} {a2 : Int} {Q : ST → Int → Prop} (h : RA s → R32 a1 → R32 a2 → ((a1 ≤ a2 → Q s 0) ∧ (¬ a1 ≤ a2 → Q s 1))) : K_X4_hasRing_196 s a1 a2 Q := by
  refine ⟨?_, trivial⟩
  intro hA hra1 hra2
  have h := h hA hra1 hra2
  refine q_iload_n eX4_hasRing_196 rfl ?_
  refine q_iload_n eX4_hasRing_197 rfl ?_
  refine q_cz_ge (tgt := 205) (a := a2) (b := a1) eX4_hasRing_198 (by decide) (ofz hra2) (ofz hra1) (fun c198 => ?_) (fun c198 => ?_)
  · have h := h.1 c198
    refine q_ic (v := Int32.ofInt 0) eX4_hasRing_205 rfl ?_
    exact q_zret eX4_hasRing_206 rfl (z01 (Or.inl rfl)) ⟨_, _, rfl, hA, (Or.inl rfl), rfl, h⟩
  · have h := h.2 c198
    refine q_ic (v := Int32.ofInt 1) eX4_hasRing_201 rfl ?_
    refine q_goto (tgt := 206) eX4_hasRing_202 (by decide) ?_
    exact q_zret eX4_hasRing_206 rfl (z01 (Or.inr rfl)) ⟨_, _, rfl, hA, (Or.inr rfl), rfl, h⟩
set_option maxRecDepth 20000 in
theorem s_X4_hasRing_144 {s : ST} {a1 : Int} {a2 : Int} {a3 : Int} {Q : ST → Int → Prop} (h : RA s → R32 a1 → R32 a2 → R32 a3 → ((a2 ≤ a3 → K_X4_hasRing_196 s a1 a2 Q) ∧ (¬ a2 ≤ a3 → ((5602 ≤ a3 → K_X4_hasRing_196 s a1 a2 Q) ∧ (¬ 5602 ≤ a3 → (((0 : Int) ≤ a3 ∧ a3 < 5604) ∧ (((0 : Int) ≤ s.1 44 a3 ∧ s.1 44 a3 < 5602) ∧ (C_X4_takePart s (s.1 41 (s.1 44 a3)) a2 (fun s3 v3 => (((0 : Int) ≤ s3.1 44 a3 ∧ s3.1 44 a3 < 5602) ∧ (C_X4_takePart s3 (s3.1 42 (s3.1 44 a3)) v3 (fun s5 v5 => (R32 (a3 + 1) ∧ K_X4_hasRing_144 s5 a1 v5 (a3 + 1) Q))))))))))))) : K_X4_hasRing_144 s a1 a2 a3 Q := by
  refine ⟨?_, trivial⟩
  intro hA hra1 hra2 hra3
  have h := h hA hra1 hra2 hra3
  refine q_iload_n eX4_hasRing_144 rfl ?_
  refine q_iload_n eX4_hasRing_145 rfl ?_
  refine q_cz_ge (tgt := 196) (a := a3) (b := a2) eX4_hasRing_146 (by decide) (ofz hra3) (ofz hra2) (fun c146 => ?_) (fun c146 => ?_)
  · have h := h.1 c146
    exact q_subL rfl (h.1 hA hra1 hra2)
  · have h := h.2 c146
    refine q_iload_n eX4_hasRing_149 rfl ?_
    refine q_si (v := Int32.ofInt 5602) eX4_hasRing_150 rfl ?_
    refine q_cz_ge (tgt := 196) (a := a3) (b := 5602) eX4_hasRing_153 (by decide) (ofz hra3) (ofz (r32l rfl)) (fun c153 => ?_) (fun c153 => ?_)
    · have h := h.1 c153
      exact q_subL rfl (h.1 hA hra1 hra2)
    · have h := h.2 c153
      refine q_aload_n eX4_hasRing_156 rfl ?_
      refine q_aload_n eX4_hasRing_157 rfl ?_
      refine q_getR (c := 4) (n := 0) (k := 5) (a := 41) eX4_hasRing_158 rfl (by decide) (by decide) fX4_18 rfl rfl ?_
      refine q_aload_n eX4_hasRing_161 rfl ?_
      refine q_getR (c := 4) (n := 0) (k := 8) (a := 44) eX4_hasRing_162 rfl (by decide) (by decide) fX4_27 rfl rfl ?_
      refine q_iload_n eX4_hasRing_165 rfl ?_
      have f1 := h.1
      have h := h.2
      refine z_iald (n := 5604) eX4_hasRing_166 rfl (ofz hra3) f1 ?_
      refine q_topI (v := Int32.ofInt (s.1 44 a3)) rfl ?_
      have f2 := h.1
      have h := h.2
      refine z_iald (n := 5602) eX4_hasRing_167 rfl (ofz (hA _ _)) f2 ?_
      refine q_topI (v := Int32.ofInt (s.1 41 (s.1 44 a3))) rfl ?_
      refine q_iload_n eX4_hasRing_168 rfl ?_
      refine q_V2 (ci := 4) (n := 0) eX4_hasRing_169 DX4_takePart lX4_62 rfl (by decide) rfl rfl rfl rfl (h.1 hA (hA _ _) hra2) ?_
      rintro _ _ ⟨s3, v3, rfl, hA3, r3, rfl, h⟩
      refine q_istore_n eX4_hasRing_172 (Nat.le_of_ble_eq_true rfl) ?_
      refine q_aload_n eX4_hasRing_173 rfl ?_
      refine q_aload_n eX4_hasRing_174 rfl ?_
      refine q_getR (c := 4) (n := 0) (k := 6) (a := 42) eX4_hasRing_175 rfl (by decide) (by decide) fX4_21 rfl rfl ?_
      refine q_aload_n eX4_hasRing_178 rfl ?_
      refine q_getR (c := 4) (n := 0) (k := 8) (a := 44) eX4_hasRing_179 rfl (by decide) (by decide) fX4_27 rfl rfl ?_
      refine q_iload_n eX4_hasRing_182 rfl ?_
      refine z_iald (n := 5604) eX4_hasRing_183 rfl (ofz hra3) f1 ?_
      refine q_topI (v := Int32.ofInt (s3.1 44 a3)) rfl ?_
      have f4 := h.1
      have h := h.2
      refine z_iald (n := 5602) eX4_hasRing_184 rfl (ofz (hA3 _ _)) f4 ?_
      refine q_topI (v := Int32.ofInt (s3.1 42 (s3.1 44 a3))) rfl ?_
      refine q_iload_n eX4_hasRing_185 rfl ?_
      refine q_V2 (ci := 4) (n := 0) eX4_hasRing_186 DX4_takePart lX4_62 rfl (by decide) rfl rfl rfl rfl (h.1 hA3 (hA3 _ _) r3) ?_
      rintro _ _ ⟨s5, v5, rfl, hA5, r5, rfl, h⟩
      refine q_istore_n eX4_hasRing_189 (Nat.le_of_ble_eq_true rfl) ?_
      have r6 := h.1
      have h := h.2
      refine z_inc (m := 1) eX4_hasRing_190 rfl (Nat.le_of_ble_eq_true rfl) rfl ?_
      refine q_goto (tgt := 144) eX4_hasRing_193 (by decide) ?_
      exact q_subL rfl (h.1 hA5 hra1 r5 r6)
set_option maxRecDepth 20000 in
theorem s_X4_hasRing_92 {s : ST} {a1 : Int} {a2 : Int} {a3 : Int} {Q : ST → Int → Prop} (h : RA s → R32 a1 → R32 a2 → R32 a3 → ((s.1 38 2 ≤ a3 → K_X4_hasRing_144 s a1 a2 0 Q) ∧ (¬ s.1 38 2 ≤ a3 → ((5602 ≤ a3 → K_X4_hasRing_144 s a1 a2 0 Q) ∧ (¬ 5602 ≤ a3 → (((0 : Int) ≤ a3 ∧ a3 < 5602) ∧ ((¬ s.1 39 a3 = a3 → (R32 (a3 + 1) ∧ K_X4_hasRing_92 s a1 a2 (a3 + 1) Q)) ∧ (s.1 39 a3 = a3 → ((¬ s.1 43 a3 = 0 → (R32 (a3 + 1) ∧ K_X4_hasRing_92 s a1 a2 (a3 + 1) Q)) ∧ (s.1 43 a3 = 0 → (((0 : Int) ≤ a2 ∧ a2 < 5604) ∧ (R32 (a2 + 1) ∧ (R32 (a3 + 1) ∧ K_X4_hasRing_92 (ui s 44 a2 a3) a1 (a2 + 1) (a3 + 1) Q))))))))))))) : K_X4_hasRing_92 s a1 a2 a3 Q := by
  refine ⟨?_, trivial⟩
  intro hA hra1 hra2 hra3
  have h := h hA hra1 hra2 hra3
  refine q_iload_n eX4_hasRing_92 rfl ?_
  refine q_aload_n eX4_hasRing_93 rfl ?_
  refine q_getf (c := 4) (n := 0) (k := 2) (v := .int (Int32.ofInt (s.1 38 2))) eX4_hasRing_94 rfl (by decide) (by decide) fX4_33 rfl ?_
  refine q_cz_ge (tgt := 142) (a := a3) (b := s.1 38 2) eX4_hasRing_97 (by decide) (ofz hra3) (ofz (hA _ _)) (fun c97 => ?_) (fun c97 => ?_)
  · have h := h.1 c97
    refine q_ic (v := Int32.ofInt 0) eX4_hasRing_142 rfl ?_
    refine q_istore_n eX4_hasRing_143 (Nat.le_of_ble_eq_true rfl) ?_
    exact q_subL rfl (h.1 hA hra1 hra2 (r32l rfl))
  · have h := h.2 c97
    refine q_iload_n eX4_hasRing_100 rfl ?_
    refine q_si (v := Int32.ofInt 5602) eX4_hasRing_101 rfl ?_
    refine q_cz_ge (tgt := 142) (a := a3) (b := 5602) eX4_hasRing_104 (by decide) (ofz hra3) (ofz (r32l rfl)) (fun c104 => ?_) (fun c104 => ?_)
    · have h := h.1 c104
      refine q_ic (v := Int32.ofInt 0) eX4_hasRing_142 rfl ?_
      refine q_istore_n eX4_hasRing_143 (Nat.le_of_ble_eq_true rfl) ?_
      exact q_subL rfl (h.1 hA hra1 hra2 (r32l rfl))
    · have h := h.2 c104
      refine q_aload_n eX4_hasRing_107 rfl ?_
      refine q_getR (c := 4) (n := 0) (k := 3) (a := 39) eX4_hasRing_108 rfl (by decide) (by decide) fX4_11 rfl rfl ?_
      refine q_iload_n eX4_hasRing_111 rfl ?_
      have f1 := h.1
      have h := h.2
      refine z_iald (n := 5602) eX4_hasRing_112 rfl (ofz hra3) f1 ?_
      refine q_topI (v := Int32.ofInt (s.1 39 a3)) rfl ?_
      refine q_iload_n eX4_hasRing_113 rfl ?_
      refine q_cz_ne (tgt := 136) (a := s.1 39 a3) (b := a3) eX4_hasRing_114 (by decide) (ofz (hA _ _)) (ofz hra3) (fun c114 => ?_) (fun c114 => ?_)
      · have h := h.1 c114
        have r2 := h.1
        have h := h.2
        refine z_inc (m := 1) eX4_hasRing_136 rfl (Nat.le_of_ble_eq_true rfl) rfl ?_
        refine q_goto (tgt := 92) eX4_hasRing_139 (by decide) ?_
        exact q_subL rfl (h.1 hA hra1 hra2 r2)
      · have h := h.2 c114
        refine q_aload_n eX4_hasRing_117 rfl ?_
        refine q_getR (c := 4) (n := 0) (k := 7) (a := 43) eX4_hasRing_118 rfl (by decide) (by decide) fX4_24 rfl rfl ?_
        refine q_iload_n eX4_hasRing_121 rfl ?_
        refine z_iald (n := 5602) eX4_hasRing_122 rfl (ofz hra3) f1 ?_
        refine q_topI (v := Int32.ofInt (s.1 43 a3)) rfl ?_
        refine q_iz_ne (tgt := 136) (a := s.1 43 a3) eX4_hasRing_123 (by decide) (ofz (hA _ _)) (fun c123 => ?_) (fun c123 => ?_)
        · have h := h.1 c123
          have r3 := h.1
          have h := h.2
          refine z_inc (m := 1) eX4_hasRing_136 rfl (Nat.le_of_ble_eq_true rfl) rfl ?_
          refine q_goto (tgt := 92) eX4_hasRing_139 (by decide) ?_
          exact q_subL rfl (h.1 hA hra1 hra2 r3)
        · have h := h.2 c123
          refine q_aload_n eX4_hasRing_126 rfl ?_
          refine q_getR (c := 4) (n := 0) (k := 8) (a := 44) eX4_hasRing_127 rfl (by decide) (by decide) fX4_27 rfl rfl ?_
          refine q_iload_n eX4_hasRing_130 rfl ?_
          refine q_iload_n eX4_hasRing_131 rfl ?_
          have f4 := h.1
          have h := h.2
          refine z_iast (n := 5604) eX4_hasRing_132 rfl (ofz hra2) f4  ?_
          have r5 := h.1
          have h := h.2
          refine z_inc (m := 1) eX4_hasRing_133 rfl (Nat.le_of_ble_eq_true rfl) rfl ?_
          have r6 := h.1
          have h := h.2
          refine z_inc (m := 1) eX4_hasRing_136 rfl (Nat.le_of_ble_eq_true rfl) rfl ?_
          refine q_goto (tgt := 92) eX4_hasRing_139 (by decide) ?_
          exact q_subL rfl (h.1 (ra_ui hA hra3) hra1 r5 r6)
set_option maxRecDepth 20000 in
theorem s_X4_hasRing_34 {s : ST} {a1 : Int} {a2 : Int} {Q : ST → Int → Prop} (h : RA s → R32 a1 → R32 a2 → ((s.1 38 2 ≤ a2 → K_X4_hasRing_92 s a1 0 0 Q) ∧ (¬ s.1 38 2 ≤ a2 → ((5602 ≤ a2 → K_X4_hasRing_92 s a1 0 0 Q) ∧ (¬ 5602 ≤ a2 → (((0 : Int) ≤ a2 ∧ a2 < 5602) ∧ ((¬ s.1 39 a2 = a2 → (R32 (a2 + 1) ∧ K_X4_hasRing_34 s a1 (a2 + 1) Q)) ∧ (s.1 39 a2 = a2 → (R32 (a1 + 1) ∧ (C_X4_countPart s (s.1 41 a2) (fun s4 => (C_X4_countPart s4 (s4.1 42 a2) (fun s5 => (R32 (a2 + 1) ∧ K_X4_hasRing_34 s5 (a1 + 1) (a2 + 1) Q)))))))))))))) : K_X4_hasRing_34 s a1 a2 Q := by
  refine ⟨?_, trivial⟩
  intro hA hra1 hra2
  have h := h hA hra1 hra2
  refine q_iload_n eX4_hasRing_34 rfl ?_
  refine q_aload_n eX4_hasRing_35 rfl ?_
  refine q_getf (c := 4) (n := 0) (k := 2) (v := .int (Int32.ofInt (s.1 38 2))) eX4_hasRing_36 rfl (by decide) (by decide) fX4_33 rfl ?_
  refine q_cz_ge (tgt := 88) (a := a2) (b := s.1 38 2) eX4_hasRing_39 (by decide) (ofz hra2) (ofz (hA _ _)) (fun c39 => ?_) (fun c39 => ?_)
  · have h := h.1 c39
    refine q_ic (v := Int32.ofInt 0) eX4_hasRing_88 rfl ?_
    refine q_istore_n eX4_hasRing_89 (Nat.le_of_ble_eq_true rfl) ?_
    refine q_ic (v := Int32.ofInt 0) eX4_hasRing_90 rfl ?_
    refine q_istore_n eX4_hasRing_91 (Nat.le_of_ble_eq_true rfl) ?_
    exact q_subL rfl (h.1 hA hra1 (r32l rfl) (r32l rfl))
  · have h := h.2 c39
    refine q_iload_n eX4_hasRing_42 rfl ?_
    refine q_si (v := Int32.ofInt 5602) eX4_hasRing_43 rfl ?_
    refine q_cz_ge (tgt := 88) (a := a2) (b := 5602) eX4_hasRing_46 (by decide) (ofz hra2) (ofz (r32l rfl)) (fun c46 => ?_) (fun c46 => ?_)
    · have h := h.1 c46
      refine q_ic (v := Int32.ofInt 0) eX4_hasRing_88 rfl ?_
      refine q_istore_n eX4_hasRing_89 (Nat.le_of_ble_eq_true rfl) ?_
      refine q_ic (v := Int32.ofInt 0) eX4_hasRing_90 rfl ?_
      refine q_istore_n eX4_hasRing_91 (Nat.le_of_ble_eq_true rfl) ?_
      exact q_subL rfl (h.1 hA hra1 (r32l rfl) (r32l rfl))
    · have h := h.2 c46
      refine q_aload_n eX4_hasRing_49 rfl ?_
      refine q_getR (c := 4) (n := 0) (k := 3) (a := 39) eX4_hasRing_50 rfl (by decide) (by decide) fX4_11 rfl rfl ?_
      refine q_iload_n eX4_hasRing_53 rfl ?_
      have f1 := h.1
      have h := h.2
      refine z_iald (n := 5602) eX4_hasRing_54 rfl (ofz hra2) f1 ?_
      refine q_topI (v := Int32.ofInt (s.1 39 a2)) rfl ?_
      refine q_iload_n eX4_hasRing_55 rfl ?_
      refine q_cz_ne (tgt := 82) (a := s.1 39 a2) (b := a2) eX4_hasRing_56 (by decide) (ofz (hA _ _)) (ofz hra2) (fun c56 => ?_) (fun c56 => ?_)
      · have h := h.1 c56
        have r2 := h.1
        have h := h.2
        refine z_inc (m := 1) eX4_hasRing_82 rfl (Nat.le_of_ble_eq_true rfl) rfl ?_
        refine q_goto (tgt := 34) eX4_hasRing_85 (by decide) ?_
        exact q_subL rfl (h.1 hA hra1 r2)
      · have h := h.2 c56
        have r3 := h.1
        have h := h.2
        refine z_inc (m := 1) eX4_hasRing_59 rfl (Nat.le_of_ble_eq_true rfl) rfl ?_
        refine q_aload_n eX4_hasRing_62 rfl ?_
        refine q_aload_n eX4_hasRing_63 rfl ?_
        refine q_getR (c := 4) (n := 0) (k := 5) (a := 41) eX4_hasRing_64 rfl (by decide) (by decide) fX4_18 rfl rfl ?_
        refine q_iload_n eX4_hasRing_67 rfl ?_
        refine z_iald (n := 5602) eX4_hasRing_68 rfl (ofz hra2) f1 ?_
        refine q_topI (v := Int32.ofInt (s.1 41 a2)) rfl ?_
        refine q_V1 (ci := 4) (n := 0) eX4_hasRing_69 DX4_countPart lX4_58 rfl (by decide) rfl rfl rfl rfl (h.1 hA (hA _ _)) ?_
        rintro _ _ ⟨s4, rfl, hA4, rfl, h⟩
        refine q_aload_n eX4_hasRing_72 rfl ?_
        refine q_aload_n eX4_hasRing_73 rfl ?_
        refine q_getR (c := 4) (n := 0) (k := 6) (a := 42) eX4_hasRing_74 rfl (by decide) (by decide) fX4_21 rfl rfl ?_
        refine q_iload_n eX4_hasRing_77 rfl ?_
        refine z_iald (n := 5602) eX4_hasRing_78 rfl (ofz hra2) f1 ?_
        refine q_topI (v := Int32.ofInt (s4.1 42 a2)) rfl ?_
        refine q_V1 (ci := 4) (n := 0) eX4_hasRing_79 DX4_countPart lX4_58 rfl (by decide) rfl rfl rfl rfl (h.1 hA4 (hA4 _ _)) ?_
        rintro _ _ ⟨s5, rfl, hA5, rfl, h⟩
        have r6 := h.1
        have h := h.2
        refine z_inc (m := 1) eX4_hasRing_82 rfl (Nat.le_of_ble_eq_true rfl) rfl ?_
        refine q_goto (tgt := 34) eX4_hasRing_85 (by decide) ?_
        exact q_subL rfl (h.1 hA5 r3 r6)
set_option maxRecDepth 20000 in
theorem s_X4_hasRing_4 {s : ST} {a1 : Int} {a2 : Int} {Q : ST → Int → Prop} (h : RA s → R32 a1 → R32 a2 → ((s.1 38 2 ≤ a2 → K_X4_hasRing_34 s a1 0 Q) ∧ (¬ s.1 38 2 ≤ a2 → ((5602 ≤ a2 → K_X4_hasRing_34 s a1 0 Q) ∧ (¬ 5602 ≤ a2 → (((0 : Int) ≤ a2 ∧ a2 < 5602) ∧ (R32 (a2 + 1) ∧ K_X4_hasRing_4 (ui s 43 a2 0) a1 (a2 + 1) Q))))))) : K_X4_hasRing_4 s a1 a2 Q := by
  refine ⟨?_, trivial⟩
  intro hA hra1 hra2
  have h := h hA hra1 hra2
  refine q_iload_n eX4_hasRing_4 rfl ?_
  refine q_aload_n eX4_hasRing_5 rfl ?_
  refine q_getf (c := 4) (n := 0) (k := 2) (v := .int (Int32.ofInt (s.1 38 2))) eX4_hasRing_6 rfl (by decide) (by decide) fX4_33 rfl ?_
  refine q_cz_ge (tgt := 32) (a := a2) (b := s.1 38 2) eX4_hasRing_9 (by decide) (ofz hra2) (ofz (hA _ _)) (fun c9 => ?_) (fun c9 => ?_)
  · have h := h.1 c9
    refine q_ic (v := Int32.ofInt 0) eX4_hasRing_32 rfl ?_
    refine q_istore_n eX4_hasRing_33 (Nat.le_of_ble_eq_true rfl) ?_
    exact q_subL rfl (h.1 hA hra1 (r32l rfl))
  · have h := h.2 c9
    refine q_iload_n eX4_hasRing_12 rfl ?_
    refine q_si (v := Int32.ofInt 5602) eX4_hasRing_13 rfl ?_
    refine q_cz_ge (tgt := 32) (a := a2) (b := 5602) eX4_hasRing_16 (by decide) (ofz hra2) (ofz (r32l rfl)) (fun c16 => ?_) (fun c16 => ?_)
    · have h := h.1 c16
      refine q_ic (v := Int32.ofInt 0) eX4_hasRing_32 rfl ?_
      refine q_istore_n eX4_hasRing_33 (Nat.le_of_ble_eq_true rfl) ?_
      exact q_subL rfl (h.1 hA hra1 (r32l rfl))
    · have h := h.2 c16
      refine q_aload_n eX4_hasRing_19 rfl ?_
      refine q_getR (c := 4) (n := 0) (k := 7) (a := 43) eX4_hasRing_20 rfl (by decide) (by decide) fX4_24 rfl rfl ?_
      refine q_iload_n eX4_hasRing_23 rfl ?_
      refine q_ic (v := Int32.ofInt 0) eX4_hasRing_24 rfl ?_
      have f1 := h.1
      have h := h.2
      refine z_iast (n := 5602) eX4_hasRing_25 rfl (ofz hra2) f1  ?_
      have r2 := h.1
      have h := h.2
      refine z_inc (m := 1) eX4_hasRing_26 rfl (Nat.le_of_ble_eq_true rfl) rfl ?_
      refine q_goto (tgt := 4) eX4_hasRing_29 (by decide) ?_
      exact q_subL rfl (h.1 (ra_ui hA (r32l rfl)) hra1 r2)
set_option maxRecDepth 20000 in
theorem s_X4_hasRing {s : ST} {Q : ST → Int → Prop} (h : RA s → K_X4_hasRing_4 s 0 0 Q) : C_X4_hasRing s Q := by
  refine ⟨?_, trivial⟩
  intro hA
  have h := h hA
  refine q_enter (by decide) (Nat.le_of_ble_eq_true rfl) ?_
  refine q_ic (v := Int32.ofInt 0) eX4_hasRing_0 rfl ?_
  refine q_istore_n eX4_hasRing_1 (Nat.le_of_ble_eq_true rfl) ?_
  refine q_ic (v := Int32.ofInt 0) eX4_hasRing_2 rfl ?_
  refine q_istore_n eX4_hasRing_3 (Nat.le_of_ble_eq_true rfl) ?_
  exact q_subL rfl (h.1 hA (r32l rfl) (r32l rfl))
theorem eX0_clashOf_0 : decode cX0_clashOf 0 = .ok (.aload_n 0, 1) := by decide +kernel
theorem eX0_clashOf_1 : decode cX0_clashOf 1 = .ok (.getfield 37, 3) := by decide +kernel
theorem eX0_clashOf_4 : decode cX0_clashOf 4 = .ok (.iconst 2, 1) := by decide +kernel
theorem eX0_clashOf_5 : decode cX0_clashOf 5 = .ok (.aload_n 0, 1) := by decide +kernel
theorem eX0_clashOf_6 : decode cX0_clashOf 6 = .ok (.getfield 41, 3) := by decide +kernel
theorem eX0_clashOf_9 : decode cX0_clashOf 9 = .ok (.imul, 1) := by decide +kernel
theorem eX0_clashOf_10 : decode cX0_clashOf 10 = .ok (.invokevirtual 144, 3) := by decide +kernel
theorem eX0_clashOf_13 : decode cX0_clashOf 13 = .ok (.iconst 0, 1) := by decide +kernel
theorem eX0_clashOf_14 : decode cX0_clashOf 14 = .ok (.istore_n 3, 1) := by decide +kernel
theorem eX0_clashOf_15 : decode cX0_clashOf 15 = .ok (.iload_n 3, 1) := by decide +kernel
theorem eX0_clashOf_16 : decode cX0_clashOf 16 = .ok (.aload_n 0, 1) := by decide +kernel
theorem eX0_clashOf_17 : decode cX0_clashOf 17 = .ok (.getfield 41, 3) := by decide +kernel
theorem eX0_clashOf_20 : decode cX0_clashOf 20 = .ok (.if_icmp .ge 41, 3) := by decide +kernel
theorem eX0_clashOf_23 : decode cX0_clashOf 23 = .ok (.iload_n 3, 1) := by decide +kernel
theorem eX0_clashOf_24 : decode cX0_clashOf 24 = .ok (.sipush 400, 3) := by decide +kernel
theorem eX0_clashOf_27 : decode cX0_clashOf 27 = .ok (.if_icmp .ge 34, 3) := by decide +kernel
theorem eX0_clashOf_30 : decode cX0_clashOf 30 = .ok (.lload_n 1, 1) := by decide +kernel
theorem eX0_clashOf_31 : decode cX0_clashOf 31 = .ok (.aload_n 0, 1) := by decide +kernel
theorem eX0_clashOf_32 : decode cX0_clashOf 32 = .ok (.getfield 9, 3) := by decide +kernel
theorem eX0_clashOf_35 : decode cX0_clashOf 35 = .ok (.iload_n 3, 1) := by decide +kernel
theorem eX0_clashOf_36 : decode cX0_clashOf 36 = .ok (.iaload, 1) := by decide +kernel
theorem eX0_clashOf_37 : decode cX0_clashOf 37 = .ok (.lushr, 1) := by decide +kernel
theorem eX0_clashOf_38 : decode cX0_clashOf 38 = .ok (.lconst 1, 1) := by decide +kernel
theorem eX0_clashOf_39 : decode cX0_clashOf 39 = .ok (.land, 1) := by decide +kernel
theorem eX0_clashOf_40 : decode cX0_clashOf 40 = .ok (.lconst 0, 1) := by decide +kernel
theorem eX0_clashOf_41 : decode cX0_clashOf 41 = .ok (.lcmp, 1) := by decide +kernel
theorem eX0_clashOf_42 : decode cX0_clashOf 42 = .ok (.ifCond .eq 13, 3) := by decide +kernel
theorem eX0_clashOf_45 : decode cX0_clashOf 45 = .ok (.aload_n 0, 1) := by decide +kernel
theorem eX0_clashOf_46 : decode cX0_clashOf 46 = .ok (.iload_n 3, 1) := by decide +kernel
theorem eX0_clashOf_47 : decode cX0_clashOf 47 = .ok (.invokevirtual 148, 3) := by decide +kernel
theorem eX0_clashOf_50 : decode cX0_clashOf 50 = .ok (.ifCond .ne 5, 3) := by decide +kernel
theorem eX0_clashOf_53 : decode cX0_clashOf 53 = .ok (.iconst 1, 1) := by decide +kernel
theorem eX0_clashOf_54 : decode cX0_clashOf 54 = .ok (.ireturn, 1) := by decide +kernel
theorem eX0_clashOf_55 : decode cX0_clashOf 55 = .ok (.iinc 3 1, 3) := by decide +kernel
theorem eX0_clashOf_58 : decode cX0_clashOf 58 = .ok (.goto (-43), 3) := by decide +kernel
theorem eX0_clashOf_61 : decode cX0_clashOf 61 = .ok (.aload_n 0, 1) := by decide +kernel
theorem eX0_clashOf_62 : decode cX0_clashOf 62 = .ok (.getfield 37, 3) := by decide +kernel
theorem eX0_clashOf_65 : decode cX0_clashOf 65 = .ok (.invokevirtual 141, 3) := by decide +kernel
theorem eX0_clashOf_68 : decode cX0_clashOf 68 = .ok (.ireturn, 1) := by decide +kernel
def C_X0_clashOf (a : Nat) (s : ST) (p : Int64) (Q : ST → Int → Prop) : Prop := bx <| isA a → RA s → q_met mX0_clashOf (qs layX s) [.ref a, .long p] (PB layX Q)
theorem C_X0_clashOf.mono {a : Nat} {s : ST} {p : Int64} {Q Q' : ST → Int → Prop} (h : C_X0_clashOf a s p Q) (hq : ∀ s v, Q s v → Q' s v) : C_X0_clashOf a s p Q' := ⟨fun ha hA => q_met.mono (h.1 ha hA) (fun _ _ => PB.mono hq), trivial⟩
def K_X0_clashOf_61 (a : Nat) (s : ST) (Q : ST → Int → Prop) : Prop := bx <| isA a → RA s → q_K mX0_clashOf (qs layX s) 0 0 61 [(0, .ref a)] [] (q_fin mX0_clashOf (PB layX Q))
def K_X0_clashOf_15 (a : Nat) (s : ST) (a1 : Int64) (a3 : Int) (Q : ST → Int → Prop) : Prop := bx <| isA a → RA s → R32 a3 → q_K mX0_clashOf (qs layX s) 0 0 15 [(0, .ref a), (1, .long a1), (3, .int (Int32.ofInt a3))] [] (q_fin mX0_clashOf (PB layX Q))
set_option maxRecDepth 20000 in
theorem s_X0_clashOf_61 {a : Nat} {s : ST} {Q : ST → Int → Prop} (h : isA a → RA s → (C_X4_hasRing s (fun s1 v1 => (v1 = 0 ∨ v1 = 1) → Q s1 v1))) : K_X0_clashOf_61 a s Q := by
  refine ⟨?_, trivial⟩
  intro ha hA
  have h := h ha hA
  refine q_aload_n eX0_clashOf_61 rfl ?_
  refine q_getR (c := 0) (n := 0) (k := 7) (a := 38) eX0_clashOf_62 (al_0 ha) (by decide) (by decide) fX0_37 rfl (ar_7 ha) ?_
  refine q_V0 (ci := 4) (n := 0) eX0_clashOf_65 DX4_hasRing lX0_141 rfl (by decide) rfl rfl rfl rfl (h.1 hA) ?_
  rintro _ _ ⟨s1, v1, rfl, hA1, b1, rfl, h⟩
  have h := h b1
  exact q_zret eX0_clashOf_68 rfl (z01 b1) ⟨_, _, rfl, hA1, b1, rfl, h⟩
set_option maxRecDepth 20000 in
theorem s_X0_clashOf_15 {a : Nat} {s : ST} {a1 : Int64} {a3 : Int} {Q : ST → Int → Prop} (h : isA a → RA s → R32 a3 → ((s.1 a 0 ≤ a3 → K_X0_clashOf_61 a s Q) ∧ (¬ s.1 a 0 ≤ a3 → ((400 ≤ a3 → K_X0_clashOf_61 a s Q) ∧ (¬ 400 ≤ a3 → (((0 : Int) ≤ a3 ∧ a3 < 400) ∧ ((((lushr a1 (s.1 (a + 1) a3)) &&& 1) = 0 → (R32 (a3 + 1) ∧ K_X0_clashOf_15 a s a1 (a3 + 1) Q)) ∧ (¬ ((lushr a1 (s.1 (a + 1) a3)) &&& 1) = 0 → (C_X0_ask a s a3 (fun s3 v3 => (v3 = 0 ∨ v3 = 1) → ((¬ v3 = 0 → (R32 (a3 + 1) ∧ K_X0_clashOf_15 a s3 a1 (a3 + 1) Q)) ∧ (v3 = 0 → Q s3 1)))))))))))) : K_X0_clashOf_15 a s a1 a3 Q := by
  refine ⟨?_, trivial⟩
  intro ha hA hra3
  have h := h ha hA hra3
  refine q_iload_n eX0_clashOf_15 rfl ?_
  refine q_aload_n eX0_clashOf_16 rfl ?_
  refine q_getf (c := 0) (n := 0) (k := 0) (v := .int (Int32.ofInt (s.1 a 0))) eX0_clashOf_17 (al_0 ha) (by decide) (by decide) fX0_41 rfl ?_
  refine q_cz_ge (tgt := 61) (a := a3) (b := s.1 a 0) eX0_clashOf_20 (by decide) (ofz hra3) (ofz (hA _ _)) (fun c20 => ?_) (fun c20 => ?_)
  · have h := h.1 c20
    exact q_subL rfl (h.1 ha hA)
  · have h := h.2 c20
    refine q_iload_n eX0_clashOf_23 rfl ?_
    refine q_si (v := Int32.ofInt 400) eX0_clashOf_24 rfl ?_
    refine q_cz_ge (tgt := 61) (a := a3) (b := 400) eX0_clashOf_27 (by decide) (ofz hra3) (ofz (r32l rfl)) (fun c27 => ?_) (fun c27 => ?_)
    · have h := h.1 c27
      exact q_subL rfl (h.1 ha hA)
    · have h := h.2 c27
      refine q_lload_n eX0_clashOf_30 rfl ?_
      refine q_aload_n eX0_clashOf_31 rfl ?_
      refine q_getR (c := 0) (n := 0) (k := 8) (a := (a + 1)) eX0_clashOf_32 (al_0 ha) (by decide) (by decide) fX0_9 rfl (ar_8 ha) ?_
      refine q_iload_n eX0_clashOf_35 rfl ?_
      have f1 := h.1
      have h := h.2
      refine z_iald (n := 400) eX0_clashOf_36 (al_1 ha) (ofz hra3) f1 ?_
      refine q_topI (v := Int32.ofInt (s.1 (a + 1) a3)) rfl ?_
      refine z_lushr eX0_clashOf_37 ?_
      refine q_lc (v := 1) eX0_clashOf_38 rfl ?_
      refine q_land eX0_clashOf_39 ?_
      refine q_lc (v := 0) eX0_clashOf_40 rfl ?_
      refine q_lcmp eX0_clashOf_41 ?_
      refine z_lc_eq (tgt := 55) eX0_clashOf_42 (by decide) (fun c42 => ?_) (fun c42 => ?_)
      · have h := h.1 c42
        have r2 := h.1
        have h := h.2
        refine z_inc (m := 1) eX0_clashOf_55 rfl (Nat.le_of_ble_eq_true rfl) rfl ?_
        refine q_goto (tgt := 15) eX0_clashOf_58 (by decide) ?_
        exact q_subL rfl (h.1 ha hA r2)
      · have h := h.2 c42
        refine q_aload_n eX0_clashOf_45 rfl ?_
        refine q_iload_n eX0_clashOf_46 rfl ?_
        refine q_V1 (ci := 0) (n := 0) eX0_clashOf_47 DX0_ask lX0_148 (al_0 ha) (by decide) rfl rfl rfl rfl (h.1 ha hA hra3) ?_
        rintro _ _ ⟨s3, v3, rfl, hA3, b3, rfl, h⟩
        have h := h b3
        refine q_iz_ne (tgt := 55) (a := v3) eX0_clashOf_50 (by decide) (ofz (r01 b3)) (fun c50 => ?_) (fun c50 => ?_)
        · have h := h.1 c50
          have r4 := h.1
          have h := h.2
          refine z_inc (m := 1) eX0_clashOf_55 rfl (Nat.le_of_ble_eq_true rfl) rfl ?_
          refine q_goto (tgt := 15) eX0_clashOf_58 (by decide) ?_
          exact q_subL rfl (h.1 ha hA3 r4)
        · have h := h.2 c50
          refine q_ic (v := Int32.ofInt 1) eX0_clashOf_53 rfl ?_
          exact q_zret eX0_clashOf_54 rfl (z01 (Or.inr rfl)) ⟨_, _, rfl, hA3, (Or.inr rfl), rfl, h⟩
set_option maxRecDepth 20000 in
theorem s_X0_clashOf {a : Nat} {s : ST} {p : Int64} {Q : ST → Int → Prop} (h : isA a → RA s → (R32 (2 * s.1 a 0) ∧ (C_X4_begin s (2 * s.1 a 0) (fun s2 => K_X0_clashOf_15 a s2 p 0 Q)))) : C_X0_clashOf a s p Q := by
  refine ⟨?_, trivial⟩
  intro ha hA
  have h := h ha hA
  refine q_enter (by decide) (Nat.le_of_ble_eq_true rfl) ?_
  refine q_aload_n eX0_clashOf_0 rfl ?_
  refine q_getR (c := 0) (n := 0) (k := 7) (a := 38) eX0_clashOf_1 (al_0 ha) (by decide) (by decide) fX0_37 rfl (ar_7 ha) ?_
  refine q_ic (v := Int32.ofInt 2) eX0_clashOf_4 rfl ?_
  refine q_aload_n eX0_clashOf_5 rfl ?_
  refine q_getf (c := 0) (n := 0) (k := 0) (v := .int (Int32.ofInt (s.1 a 0))) eX0_clashOf_6 (al_0 ha) (by decide) (by decide) fX0_41 rfl ?_
  refine z_imul eX0_clashOf_9 ?_
  have r1 := h.1
  have h := h.2
  refine q_V1 (ci := 4) (n := 0) eX0_clashOf_10 DX4_begin lX0_144 rfl (by decide) rfl rfl rfl rfl (h.1 hA r1) ?_
  rintro _ _ ⟨s2, rfl, hA2, rfl, h⟩
  refine q_ic (v := Int32.ofInt 0) eX0_clashOf_13 rfl ?_
  refine q_istore_n eX0_clashOf_14 (Nat.le_of_ble_eq_true rfl) ?_
  exact q_subL rfl (h.1 ha hA2 (r32l rfl))
theorem eX0_allFit_0 : decode cX0_allFit 0 = .ok (.aload_n 0, 1) := by decide +kernel
theorem eX0_allFit_1 : decode cX0_allFit 1 = .ok (.getfield 49, 3) := by decide +kernel
theorem eX0_allFit_4 : decode cX0_allFit 4 = .ok (.ifCond .ne 31, 3) := by decide +kernel
theorem eX0_allFit_7 : decode cX0_allFit 7 = .ok (.aload_n 0, 1) := by decide +kernel
theorem eX0_allFit_8 : decode cX0_allFit 8 = .ok (.aload_n 0, 1) := by decide +kernel
theorem eX0_allFit_9 : decode cX0_allFit 9 = .ok (.aload_n 0, 1) := by decide +kernel
theorem eX0_allFit_10 : decode cX0_allFit 10 = .ok (.getfield 33, 3) := by decide +kernel
theorem eX0_allFit_13 : decode cX0_allFit 13 = .ok (.invokevirtual 107, 3) := by decide +kernel
theorem eX0_allFit_16 : decode cX0_allFit 16 = .ok (.invokevirtual 111, 3) := by decide +kernel
theorem eX0_allFit_19 : decode cX0_allFit 19 = .ok (.ifCond .ne 7, 3) := by decide +kernel
theorem eX0_allFit_22 : decode cX0_allFit 22 = .ok (.iconst 1, 1) := by decide +kernel
theorem eX0_allFit_23 : decode cX0_allFit 23 = .ok (.goto 4, 3) := by decide +kernel
theorem eX0_allFit_26 : decode cX0_allFit 26 = .ok (.iconst 0, 1) := by decide +kernel
theorem eX0_allFit_27 : decode cX0_allFit 27 = .ok (.putfield 115, 3) := by decide +kernel
theorem eX0_allFit_30 : decode cX0_allFit 30 = .ok (.aload_n 0, 1) := by decide +kernel
theorem eX0_allFit_31 : decode cX0_allFit 31 = .ok (.iconst 1, 1) := by decide +kernel
theorem eX0_allFit_32 : decode cX0_allFit 32 = .ok (.putfield 49, 3) := by decide +kernel
theorem eX0_allFit_35 : decode cX0_allFit 35 = .ok (.aload_n 0, 1) := by decide +kernel
theorem eX0_allFit_36 : decode cX0_allFit 36 = .ok (.getfield 115, 3) := by decide +kernel
theorem eX0_allFit_39 : decode cX0_allFit 39 = .ok (.ireturn, 1) := by decide +kernel
def C_X0_allFit (a : Nat) (s : ST) (Q : ST → Int → Prop) : Prop := bx <| isA a → RA s → q_met mX0_allFit (qs layX s) [.ref a] (PB layX Q)
theorem C_X0_allFit.mono {a : Nat} {s : ST} {Q Q' : ST → Int → Prop} (h : C_X0_allFit a s Q) (hq : ∀ s v, Q s v → Q' s v) : C_X0_allFit a s Q' := ⟨fun ha hA => q_met.mono (h.1 ha hA) (fun _ _ => PB.mono hq), trivial⟩
set_option maxRecDepth 20000 in
theorem s_X0_allFit {a : Nat} {s : ST} {Q : ST → Int → Prop} (h : isA a → RA s → ((¬ s.1 a 2 = 0 → ((s.1 a 3 = 0 ∨ s.1 a 3 = 1) ∧ Q s (s.1 a 3))) ∧ (s.1 a 2 = 0 → (C_X0_clashOf a s ((lshl 1 (s.1 (akT a) 1)) - 1) (fun s3 v3 => (v3 = 0 ∨ v3 = 1) → ((¬ v3 = 0 → (((ui (ui s3 a 3 0) a 2 1).1 a 3 = 0 ∨ (ui (ui s3 a 3 0) a 2 1).1 a 3 = 1) ∧ Q (ui (ui s3 a 3 0) a 2 1) ((ui (ui s3 a 3 0) a 2 1).1 a 3))) ∧ (v3 = 0 → (((ui (ui s3 a 3 1) a 2 1).1 a 3 = 0 ∨ (ui (ui s3 a 3 1) a 2 1).1 a 3 = 1) ∧ Q (ui (ui s3 a 3 1) a 2 1) ((ui (ui s3 a 3 1) a 2 1).1 a 3))))))))) : C_X0_allFit a s Q := by
  refine ⟨?_, trivial⟩
  intro ha hA
  have h := h ha hA
  refine q_enter (by decide) (Nat.le_of_ble_eq_true rfl) ?_
  refine q_aload_n eX0_allFit_0 rfl ?_
  refine q_getf (c := 0) (n := 0) (k := 2) (v := .int (Int32.ofInt (s.1 a 2))) eX0_allFit_1 (al_0 ha) (by decide) (by decide) fX0_49 rfl ?_
  refine q_iz_ne (tgt := 35) (a := s.1 a 2) eX0_allFit_4 (by decide) (ofz (hA _ _)) (fun c4 => ?_) (fun c4 => ?_)
  · have h := h.1 c4
    refine q_aload_n eX0_allFit_35 rfl ?_
    refine q_getf (c := 0) (n := 0) (k := 3) (v := .int (Int32.ofInt (s.1 a 3))) eX0_allFit_36 (al_0 ha) (by decide) (by decide) fX0_115 rfl ?_
    have b1 := h.1
    have h := h.2
    exact q_zret eX0_allFit_39 rfl (z01 b1) ⟨_, _, rfl, hA, b1, rfl, h⟩
  · have h := h.2 c4
    refine q_aload_n eX0_allFit_7 rfl ?_
    refine q_aload_n eX0_allFit_8 rfl ?_
    refine q_aload_n eX0_allFit_9 rfl ?_
    refine q_getR (c := 0) (n := 0) (k := 6) (a := (akT a)) eX0_allFit_10 (al_0 ha) (by decide) (by decide) fX0_33 rfl (ar_6 ha) ?_
    refine q_V0 (ci := 9) (n := 0) eX0_allFit_13 DX9_all lX0_107 (tl_0 (akT_ok ha)) (by decide) rfl rfl rfl rfl (p_X9_all (akT_ok ha) hA) ?_
    rintro _ _ ⟨rfl, rfl⟩
    refine q_V1 (ci := 0) (n := 0) eX0_allFit_16 DX0_clashOf lX0_111 (al_0 ha) (by decide) rfl rfl rfl rfl (h.1 ha hA) ?_
    rintro _ _ ⟨s3, v3, rfl, hA3, b3, rfl, h⟩
    have h := h b3
    refine q_iz_ne (tgt := 26) (a := v3) eX0_allFit_19 (by decide) (ofz (r01 b3)) (fun c19 => ?_) (fun c19 => ?_)
    · have h := h.1 c19
      refine q_ic (v := Int32.ofInt 0) eX0_allFit_26 rfl ?_
      refine z_putZ (c := 0) (n := 0) (k := 3) (kz := 3) eX0_allFit_27 (al_0 ha) (by decide) (by decide) fX0_115 rfl rfl rfl (z01 (Or.inl rfl)) ?_
      refine q_aload_n eX0_allFit_30 rfl ?_
      refine q_ic (v := Int32.ofInt 1) eX0_allFit_31 rfl ?_
      refine z_putZ (c := 0) (n := 0) (k := 2) (kz := 2) eX0_allFit_32 (al_0 ha) (by decide) (by decide) fX0_49 rfl rfl rfl (z01 (Or.inr rfl)) ?_
      refine q_aload_n eX0_allFit_35 rfl ?_
      refine q_getf (c := 0) (n := 0) (k := 3) (v := .int (Int32.ofInt ((ui (ui s3 a 3 0) a 2 1).1 a 3))) eX0_allFit_36 (al_0 ha) (by decide) (by decide) fX0_115 rfl ?_
      have b4 := h.1
      have h := h.2
      exact q_zret eX0_allFit_39 rfl (z01 b4) ⟨_, _, rfl, (ra_ui (ra_ui hA3 (r32l rfl)) (r32l rfl)), b4, rfl, h⟩
    · have h := h.2 c19
      refine q_ic (v := Int32.ofInt 1) eX0_allFit_22 rfl ?_
      refine q_goto (tgt := 27) eX0_allFit_23 (by decide) ?_
      refine z_putZ (c := 0) (n := 0) (k := 3) (kz := 3) eX0_allFit_27 (al_0 ha) (by decide) (by decide) fX0_115 rfl rfl rfl (z01 (Or.inr rfl)) ?_
      refine q_aload_n eX0_allFit_30 rfl ?_
      refine q_ic (v := Int32.ofInt 1) eX0_allFit_31 rfl ?_
      refine z_putZ (c := 0) (n := 0) (k := 2) (kz := 2) eX0_allFit_32 (al_0 ha) (by decide) (by decide) fX0_49 rfl rfl rfl (z01 (Or.inr rfl)) ?_
      refine q_aload_n eX0_allFit_35 rfl ?_
      refine q_getf (c := 0) (n := 0) (k := 3) (v := .int (Int32.ofInt ((ui (ui s3 a 3 1) a 2 1).1 a 3))) eX0_allFit_36 (al_0 ha) (by decide) (by decide) fX0_115 rfl ?_
      have b5 := h.1
      have h := h.2
      exact q_zret eX0_allFit_39 rfl (z01 b5) ⟨_, _, rfl, (ra_ui (ra_ui hA3 (r32l rfl)) (r32l rfl)), b5, rfl, h⟩
theorem eX0_coreWithin_0 : decode cX0_coreWithin 0 = .ok (.aload_n 0, 1) := by decide +kernel
theorem eX0_coreWithin_1 : decode cX0_coreWithin 1 = .ok (.lload_n 1, 1) := by decide +kernel
theorem eX0_coreWithin_2 : decode cX0_coreWithin 2 = .ok (.invokevirtual 111, 3) := by decide +kernel
theorem eX0_coreWithin_5 : decode cX0_coreWithin 5 = .ok (.ifCond .ne 5, 3) := by decide +kernel
theorem eX0_coreWithin_8 : decode cX0_coreWithin 8 = .ok (.lconst 0, 1) := by decide +kernel
theorem eX0_coreWithin_9 : decode cX0_coreWithin 9 = .ok (.lreturn, 1) := by decide +kernel
theorem eX0_coreWithin_10 : decode cX0_coreWithin 10 = .ok (.lload_n 1, 1) := by decide +kernel
theorem eX0_coreWithin_11 : decode cX0_coreWithin 11 = .ok (.lstore_n 3, 1) := by decide +kernel
theorem eX0_coreWithin_12 : decode cX0_coreWithin 12 = .ok (.iconst 0, 1) := by decide +kernel
theorem eX0_coreWithin_13 : decode cX0_coreWithin 13 = .ok (.istore 5, 2) := by decide +kernel
theorem eX0_coreWithin_15 : decode cX0_coreWithin 15 = .ok (.iload 5, 2) := by decide +kernel
theorem eX0_coreWithin_17 : decode cX0_coreWithin 17 = .ok (.bipush 40, 2) := by decide +kernel
theorem eX0_coreWithin_19 : decode cX0_coreWithin 19 = .ok (.if_icmp .ge 40, 3) := by decide +kernel
theorem eX0_coreWithin_22 : decode cX0_coreWithin 22 = .ok (.lload_n 3, 1) := by decide +kernel
theorem eX0_coreWithin_23 : decode cX0_coreWithin 23 = .ok (.lconst 1, 1) := by decide +kernel
theorem eX0_coreWithin_24 : decode cX0_coreWithin 24 = .ok (.iload 5, 2) := by decide +kernel
theorem eX0_coreWithin_26 : decode cX0_coreWithin 26 = .ok (.lshl, 1) := by decide +kernel
theorem eX0_coreWithin_27 : decode cX0_coreWithin 27 = .ok (.ldc2_w 130, 3) := by decide +kernel
theorem eX0_coreWithin_30 : decode cX0_coreWithin 30 = .ok (.lxor, 1) := by decide +kernel
theorem eX0_coreWithin_31 : decode cX0_coreWithin 31 = .ok (.land, 1) := by decide +kernel
theorem eX0_coreWithin_32 : decode cX0_coreWithin 32 = .ok (.lstore 6, 2) := by decide +kernel
theorem eX0_coreWithin_34 : decode cX0_coreWithin 34 = .ok (.lload 6, 2) := by decide +kernel
theorem eX0_coreWithin_36 : decode cX0_coreWithin 36 = .ok (.lload_n 3, 1) := by decide +kernel
theorem eX0_coreWithin_37 : decode cX0_coreWithin 37 = .ok (.lcmp, 1) := by decide +kernel
theorem eX0_coreWithin_38 : decode cX0_coreWithin 38 = .ok (.ifCond .eq 15, 3) := by decide +kernel
theorem eX0_coreWithin_41 : decode cX0_coreWithin 41 = .ok (.aload_n 0, 1) := by decide +kernel
theorem eX0_coreWithin_42 : decode cX0_coreWithin 42 = .ok (.lload 6, 2) := by decide +kernel
theorem eX0_coreWithin_44 : decode cX0_coreWithin 44 = .ok (.invokevirtual 111, 3) := by decide +kernel
theorem eX0_coreWithin_47 : decode cX0_coreWithin 47 = .ok (.ifCond .eq 6, 3) := by decide +kernel
theorem eX0_coreWithin_50 : decode cX0_coreWithin 50 = .ok (.lload 6, 2) := by decide +kernel
theorem eX0_coreWithin_52 : decode cX0_coreWithin 52 = .ok (.lstore_n 3, 1) := by decide +kernel
theorem eX0_coreWithin_53 : decode cX0_coreWithin 53 = .ok (.iinc 5 1, 3) := by decide +kernel
theorem eX0_coreWithin_56 : decode cX0_coreWithin 56 = .ok (.goto (-41), 3) := by decide +kernel
theorem eX0_coreWithin_59 : decode cX0_coreWithin 59 = .ok (.lload_n 3, 1) := by decide +kernel
theorem eX0_coreWithin_60 : decode cX0_coreWithin 60 = .ok (.lreturn, 1) := by decide +kernel
def C_X0_coreWithin (a : Nat) (s : ST) (p : Int64) (Q : ST → Int64 → Prop) : Prop := bx <| isA a → RA s → q_met mX0_coreWithin (qs layX s) [.ref a, .long p] (PL layX Q)
theorem C_X0_coreWithin.mono {a : Nat} {s : ST} {p : Int64} {Q Q' : ST → Int64 → Prop} (h : C_X0_coreWithin a s p Q) (hq : ∀ s v, Q s v → Q' s v) : C_X0_coreWithin a s p Q' := ⟨fun ha hA => q_met.mono (h.1 ha hA) (fun _ _ => PL.mono hq), trivial⟩
def K_X0_coreWithin_15 (a : Nat) (s : ST) (a3 : Int64) (a5 : Int) (Q : ST → Int64 → Prop) : Prop := bx <| isA a → RA s → R32 a5 → q_K mX0_coreWithin (qs layX s) 0 0 15 [(0, .ref a), (3, .long a3), (5, .int (Int32.ofInt a5))] [] (q_fin mX0_coreWithin (PL layX Q))
set_option maxRecDepth 20000 in
theorem s_X0_coreWithin_15 {a : Nat} {s : ST} {a3 : Int64} {a5 : Int} {Q : ST → Int64 → Prop} (h : isA a → RA s → R32 a5 → ((40 ≤ a5 → Q s a3) ∧ (¬ 40 ≤ a5 → (((a3 &&& ((lshl 1 a5) ^^^ (-1))) = a3 → (R32 (a5 + 1) ∧ K_X0_coreWithin_15 a s a3 (a5 + 1) Q)) ∧ (¬ (a3 &&& ((lshl 1 a5) ^^^ (-1))) = a3 → (C_X0_clashOf a s (a3 &&& ((lshl 1 a5) ^^^ (-1))) (fun s2 v2 => (v2 = 0 ∨ v2 = 1) → ((v2 = 0 → (R32 (a5 + 1) ∧ K_X0_coreWithin_15 a s2 a3 (a5 + 1) Q)) ∧ (¬ v2 = 0 → (R32 (a5 + 1) ∧ K_X0_coreWithin_15 a s2 (a3 &&& ((lshl 1 a5) ^^^ (-1))) (a5 + 1) Q)))))))))) : K_X0_coreWithin_15 a s a3 a5 Q := by
  refine ⟨?_, trivial⟩
  intro ha hA hra5
  have h := h ha hA hra5
  refine q_iload eX0_coreWithin_15 rfl ?_
  refine q_bi (v := Int32.ofInt 40) eX0_coreWithin_17 rfl ?_
  refine q_cz_ge (tgt := 59) (a := a5) (b := 40) eX0_coreWithin_19 (by decide) (ofz hra5) (ofz (r32l rfl)) (fun c19 => ?_) (fun c19 => ?_)
  · have h := h.1 c19
    refine q_lload_n eX0_coreWithin_59 rfl ?_
    exact q_lret eX0_coreWithin_60 rfl ⟨_, _, rfl, hA, rfl, h⟩
  · have h := h.2 c19
    refine q_lload_n eX0_coreWithin_22 rfl ?_
    refine q_lc (v := 1) eX0_coreWithin_23 rfl ?_
    refine q_iload eX0_coreWithin_24 rfl ?_
    refine z_lshl eX0_coreWithin_26 ?_
    refine q_ldc2 (v := (-1)) eX0_coreWithin_27 nX0_130 ?_
    refine q_lxor eX0_coreWithin_30 ?_
    refine q_land eX0_coreWithin_31 ?_
    refine q_lstore eX0_coreWithin_32 (Nat.le_of_ble_eq_true rfl) ?_
    refine q_lload eX0_coreWithin_34 rfl ?_
    refine q_lload_n eX0_coreWithin_36 rfl ?_
    refine q_lcmp eX0_coreWithin_37 ?_
    refine z_lc_eq (tgt := 53) eX0_coreWithin_38 (by decide) (fun c38 => ?_) (fun c38 => ?_)
    · have h := h.1 c38
      have r1 := h.1
      have h := h.2
      refine z_inc (m := 1) eX0_coreWithin_53 rfl (Nat.le_of_ble_eq_true rfl) rfl ?_
      refine q_goto (tgt := 15) eX0_coreWithin_56 (by decide) ?_
      exact q_subL rfl (h.1 ha hA r1)
    · have h := h.2 c38
      refine q_aload_n eX0_coreWithin_41 rfl ?_
      refine q_lload eX0_coreWithin_42 rfl ?_
      refine q_V1 (ci := 0) (n := 0) eX0_coreWithin_44 DX0_clashOf lX0_111 (al_0 ha) (by decide) rfl rfl rfl rfl (h.1 ha hA) ?_
      rintro _ _ ⟨s2, v2, rfl, hA2, b2, rfl, h⟩
      have h := h b2
      refine q_iz_eq (tgt := 53) (a := v2) eX0_coreWithin_47 (by decide) (ofz (r01 b2)) (fun c47 => ?_) (fun c47 => ?_)
      · have h := h.1 c47
        have r3 := h.1
        have h := h.2
        refine z_inc (m := 1) eX0_coreWithin_53 rfl (Nat.le_of_ble_eq_true rfl) rfl ?_
        refine q_goto (tgt := 15) eX0_coreWithin_56 (by decide) ?_
        exact q_subL rfl (h.1 ha hA2 r3)
      · have h := h.2 c47
        refine q_lload eX0_coreWithin_50 rfl ?_
        refine q_lstore_n eX0_coreWithin_52 (Nat.le_of_ble_eq_true rfl) ?_
        have r4 := h.1
        have h := h.2
        refine z_inc (m := 1) eX0_coreWithin_53 rfl (Nat.le_of_ble_eq_true rfl) rfl ?_
        refine q_goto (tgt := 15) eX0_coreWithin_56 (by decide) ?_
        exact q_subL rfl (h.1 ha hA2 r4)
set_option maxRecDepth 20000 in
theorem s_X0_coreWithin {a : Nat} {s : ST} {p : Int64} {Q : ST → Int64 → Prop} (h : isA a → RA s → (C_X0_clashOf a s p (fun s1 v1 => (v1 = 0 ∨ v1 = 1) → ((¬ v1 = 0 → K_X0_coreWithin_15 a s1 p 0 Q) ∧ (v1 = 0 → Q s1 0))))) : C_X0_coreWithin a s p Q := by
  refine ⟨?_, trivial⟩
  intro ha hA
  have h := h ha hA
  refine q_enter (by decide) (Nat.le_of_ble_eq_true rfl) ?_
  refine q_aload_n eX0_coreWithin_0 rfl ?_
  refine q_lload_n eX0_coreWithin_1 rfl ?_
  refine q_V1 (ci := 0) (n := 0) eX0_coreWithin_2 DX0_clashOf lX0_111 (al_0 ha) (by decide) rfl rfl rfl rfl (h.1 ha hA) ?_
  rintro _ _ ⟨s1, v1, rfl, hA1, b1, rfl, h⟩
  have h := h b1
  refine q_iz_ne (tgt := 10) (a := v1) eX0_coreWithin_5 (by decide) (ofz (r01 b1)) (fun c5 => ?_) (fun c5 => ?_)
  · have h := h.1 c5
    refine q_lload_n eX0_coreWithin_10 rfl ?_
    refine q_lstore_n eX0_coreWithin_11 (Nat.le_of_ble_eq_true rfl) ?_
    refine q_ic (v := Int32.ofInt 0) eX0_coreWithin_12 rfl ?_
    refine q_istore eX0_coreWithin_13 (Nat.le_of_ble_eq_true rfl) ?_
    exact q_subL rfl (h.1 ha hA1 (r32l rfl))
  · have h := h.2 c5
    refine q_lc (v := 0) eX0_coreWithin_8 rfl ?_
    exact q_lret eX0_coreWithin_9 rfl ⟨_, _, rfl, hA1, rfl, h⟩
theorem eX0_coreOfAll_0 : decode cX0_coreOfAll 0 = .ok (.aload_n 0, 1) := by decide +kernel
theorem eX0_coreOfAll_1 : decode cX0_coreOfAll 1 = .ok (.getfield 52, 3) := by decide +kernel
theorem eX0_coreOfAll_4 : decode cX0_coreOfAll 4 = .ok (.ifCond .ne 34, 3) := by decide +kernel
theorem eX0_coreOfAll_7 : decode cX0_coreOfAll 7 = .ok (.aload_n 0, 1) := by decide +kernel
theorem eX0_coreOfAll_8 : decode cX0_coreOfAll 8 = .ok (.aload_n 0, 1) := by decide +kernel
theorem eX0_coreOfAll_9 : decode cX0_coreOfAll 9 = .ok (.invokevirtual 118, 3) := by decide +kernel
theorem eX0_coreOfAll_12 : decode cX0_coreOfAll 12 = .ok (.ifCond .eq 7, 3) := by decide +kernel
theorem eX0_coreOfAll_15 : decode cX0_coreOfAll 15 = .ok (.lconst 0, 1) := by decide +kernel
theorem eX0_coreOfAll_16 : decode cX0_coreOfAll 16 = .ok (.goto 14, 3) := by decide +kernel
theorem eX0_coreOfAll_19 : decode cX0_coreOfAll 19 = .ok (.aload_n 0, 1) := by decide +kernel
theorem eX0_coreOfAll_20 : decode cX0_coreOfAll 20 = .ok (.aload_n 0, 1) := by decide +kernel
theorem eX0_coreOfAll_21 : decode cX0_coreOfAll 21 = .ok (.getfield 33, 3) := by decide +kernel
theorem eX0_coreOfAll_24 : decode cX0_coreOfAll 24 = .ok (.invokevirtual 107, 3) := by decide +kernel
theorem eX0_coreOfAll_27 : decode cX0_coreOfAll 27 = .ok (.invokevirtual 122, 3) := by decide +kernel
theorem eX0_coreOfAll_30 : decode cX0_coreOfAll 30 = .ok (.putfield 126, 3) := by decide +kernel
theorem eX0_coreOfAll_33 : decode cX0_coreOfAll 33 = .ok (.aload_n 0, 1) := by decide +kernel
theorem eX0_coreOfAll_34 : decode cX0_coreOfAll 34 = .ok (.iconst 1, 1) := by decide +kernel
theorem eX0_coreOfAll_35 : decode cX0_coreOfAll 35 = .ok (.putfield 52, 3) := by decide +kernel
theorem eX0_coreOfAll_38 : decode cX0_coreOfAll 38 = .ok (.aload_n 0, 1) := by decide +kernel
theorem eX0_coreOfAll_39 : decode cX0_coreOfAll 39 = .ok (.getfield 126, 3) := by decide +kernel
theorem eX0_coreOfAll_42 : decode cX0_coreOfAll 42 = .ok (.lreturn, 1) := by decide +kernel
def C_X0_coreOfAll (a : Nat) (s : ST) (Q : ST → Int64 → Prop) : Prop := bx <| isA a → RA s → q_met mX0_coreOfAll (qs layX s) [.ref a] (PL layX Q)
theorem C_X0_coreOfAll.mono {a : Nat} {s : ST} {Q Q' : ST → Int64 → Prop} (h : C_X0_coreOfAll a s Q) (hq : ∀ s v, Q s v → Q' s v) : C_X0_coreOfAll a s Q' := ⟨fun ha hA => q_met.mono (h.1 ha hA) (fun _ _ => PL.mono hq), trivial⟩
set_option maxRecDepth 20000 in
theorem s_X0_coreOfAll {a : Nat} {s : ST} {Q : ST → Int64 → Prop} (h : isA a → RA s → ((¬ s.1 a 4 = 0 → Q s (s.2 a 5)) ∧ (s.1 a 4 = 0 → (C_X0_allFit a s (fun s1 v1 => (v1 = 0 ∨ v1 = 1) → ((v1 = 0 → (C_X0_coreWithin a s1 ((lshl 1 (s1.1 (akT a) 1)) - 1) (fun s3 v3 => Q (ui (uj s3 a 5 v3) a 4 1) ((ui (uj s3 a 5 v3) a 4 1).2 a 5)))) ∧ (¬ v1 = 0 → Q (ui (uj s1 a 5 0) a 4 1) ((ui (uj s1 a 5 0) a 4 1).2 a 5)))))))) : C_X0_coreOfAll a s Q := by
  refine ⟨?_, trivial⟩
  intro ha hA
  have h := h ha hA
  refine q_enter (by decide) (Nat.le_of_ble_eq_true rfl) ?_
  refine q_aload_n eX0_coreOfAll_0 rfl ?_
  refine q_getf (c := 0) (n := 0) (k := 4) (v := .int (Int32.ofInt (s.1 a 4))) eX0_coreOfAll_1 (al_0 ha) (by decide) (by decide) fX0_52 rfl ?_
  refine q_iz_ne (tgt := 38) (a := s.1 a 4) eX0_coreOfAll_4 (by decide) (ofz (hA _ _)) (fun c4 => ?_) (fun c4 => ?_)
  · have h := h.1 c4
    refine q_aload_n eX0_coreOfAll_38 rfl ?_
    refine q_getf (c := 0) (n := 0) (k := 5) (v := .long (s.2 a 5)) eX0_coreOfAll_39 (al_0 ha) (by decide) (by decide) fX0_126 rfl ?_
    exact q_lret eX0_coreOfAll_42 rfl ⟨_, _, rfl, hA, rfl, h⟩
  · have h := h.2 c4
    refine q_aload_n eX0_coreOfAll_7 rfl ?_
    refine q_aload_n eX0_coreOfAll_8 rfl ?_
    refine q_V0 (ci := 0) (n := 0) eX0_coreOfAll_9 DX0_allFit lX0_118 (al_0 ha) (by decide) rfl rfl rfl rfl (h.1 ha hA) ?_
    rintro _ _ ⟨s1, v1, rfl, hA1, b1, rfl, h⟩
    have h := h b1
    refine q_iz_eq (tgt := 19) (a := v1) eX0_coreOfAll_12 (by decide) (ofz (r01 b1)) (fun c12 => ?_) (fun c12 => ?_)
    · have h := h.1 c12
      refine q_aload_n eX0_coreOfAll_19 rfl ?_
      refine q_aload_n eX0_coreOfAll_20 rfl ?_
      refine q_getR (c := 0) (n := 0) (k := 6) (a := (akT a)) eX0_coreOfAll_21 (al_0 ha) (by decide) (by decide) fX0_33 rfl (ar_6 ha) ?_
      refine q_V0 (ci := 9) (n := 0) eX0_coreOfAll_24 DX9_all lX0_107 (tl_0 (akT_ok ha)) (by decide) rfl rfl rfl rfl (p_X9_all (akT_ok ha) hA1) ?_
      rintro _ _ ⟨rfl, rfl⟩
      refine q_V1 (ci := 0) (n := 0) eX0_coreOfAll_27 DX0_coreWithin lX0_122 (al_0 ha) (by decide) rfl rfl rfl rfl (h.1 ha hA1) ?_
      rintro _ _ ⟨s3, v3, rfl, hA3, rfl, h⟩
      refine z_putJ (c := 0) (n := 0) (k := 5) (kz := 5) eX0_coreOfAll_30 (al_0 ha) (by decide) (by decide) fX0_126 rfl rfl rfl ?_
      refine q_aload_n eX0_coreOfAll_33 rfl ?_
      refine q_ic (v := Int32.ofInt 1) eX0_coreOfAll_34 rfl ?_
      refine z_putZ (c := 0) (n := 0) (k := 4) (kz := 4) eX0_coreOfAll_35 (al_0 ha) (by decide) (by decide) fX0_52 rfl rfl rfl (z01 (Or.inr rfl)) ?_
      refine q_aload_n eX0_coreOfAll_38 rfl ?_
      refine q_getf (c := 0) (n := 0) (k := 5) (v := .long ((ui (uj s3 a 5 v3) a 4 1).2 a 5)) eX0_coreOfAll_39 (al_0 ha) (by decide) (by decide) fX0_126 rfl ?_
      exact q_lret eX0_coreOfAll_42 rfl ⟨_, _, rfl, (ra_ui (ra_uj hA3) (r32l rfl)), rfl, h⟩
    · have h := h.2 c12
      refine q_lc (v := 0) eX0_coreOfAll_15 rfl ?_
      refine q_goto (tgt := 30) eX0_coreOfAll_16 (by decide) ?_
      refine z_putJ (c := 0) (n := 0) (k := 5) (kz := 5) eX0_coreOfAll_30 (al_0 ha) (by decide) (by decide) fX0_126 rfl rfl rfl ?_
      refine q_aload_n eX0_coreOfAll_33 rfl ?_
      refine q_ic (v := Int32.ofInt 1) eX0_coreOfAll_34 rfl ?_
      refine z_putZ (c := 0) (n := 0) (k := 4) (kz := 4) eX0_coreOfAll_35 (al_0 ha) (by decide) (by decide) fX0_52 rfl rfl rfl (z01 (Or.inr rfl)) ?_
      refine q_aload_n eX0_coreOfAll_38 rfl ?_
      refine q_getf (c := 0) (n := 0) (k := 5) (v := .long ((ui (uj s1 a 5 0) a 4 1).2 a 5)) eX0_coreOfAll_39 (al_0 ha) (by decide) (by decide) fX0_126 rfl ?_
      exact q_lret eX0_coreOfAll_42 rfl ⟨_, _, rfl, (ra_ui (ra_uj hA1) (r32l rfl)), rfl, h⟩
theorem eX0_meet_0 : decode cX0_meet 0 = .ok (.aload_n 0, 1) := by decide +kernel
theorem eX0_meet_1 : decode cX0_meet 1 = .ok (.aload_n 0, 1) := by decide +kernel
theorem eX0_meet_2 : decode cX0_meet 2 = .ok (.getfield 33, 3) := by decide +kernel
theorem eX0_meet_5 : decode cX0_meet 5 = .ok (.invokevirtual 107, 3) := by decide +kernel
theorem eX0_meet_8 : decode cX0_meet 8 = .ok (.invokevirtual 111, 3) := by decide +kernel
theorem eX0_meet_11 : decode cX0_meet 11 = .ok (.ifCond .ne 37, 3) := by decide +kernel
theorem eX0_meet_14 : decode cX0_meet 14 = .ok (.aload_n 0, 1) := by decide +kernel
theorem eX0_meet_15 : decode cX0_meet 15 = .ok (.getfield 37, 3) := by decide +kernel
theorem eX0_meet_18 : decode cX0_meet 18 = .ok (.aload_n 0, 1) := by decide +kernel
theorem eX0_meet_19 : decode cX0_meet 19 = .ok (.iload_n 1, 1) := by decide +kernel
theorem eX0_meet_20 : decode cX0_meet 20 = .ok (.invokevirtual 132, 3) := by decide +kernel
theorem eX0_meet_23 : decode cX0_meet 23 = .ok (.aload_n 0, 1) := by decide +kernel
theorem eX0_meet_24 : decode cX0_meet 24 = .ok (.iload_n 2, 1) := by decide +kernel
theorem eX0_meet_25 : decode cX0_meet 25 = .ok (.invokevirtual 132, 3) := by decide +kernel
theorem eX0_meet_28 : decode cX0_meet 28 = .ok (.invokevirtual 135, 3) := by decide +kernel
theorem eX0_meet_31 : decode cX0_meet 31 = .ok (.ifCond .eq 17, 3) := by decide +kernel
theorem eX0_meet_34 : decode cX0_meet 34 = .ok (.aload_n 0, 1) := by decide +kernel
theorem eX0_meet_35 : decode cX0_meet 35 = .ok (.getfield 37, 3) := by decide +kernel
theorem eX0_meet_38 : decode cX0_meet 38 = .ok (.invokevirtual 141, 3) := by decide +kernel
theorem eX0_meet_41 : decode cX0_meet 41 = .ok (.ifCond .ne 7, 3) := by decide +kernel
theorem eX0_meet_44 : decode cX0_meet 44 = .ok (.iconst 1, 1) := by decide +kernel
theorem eX0_meet_45 : decode cX0_meet 45 = .ok (.goto 4, 3) := by decide +kernel
theorem eX0_meet_48 : decode cX0_meet 48 = .ok (.iconst 0, 1) := by decide +kernel
theorem eX0_meet_49 : decode cX0_meet 49 = .ok (.ireturn, 1) := by decide +kernel
def C_X0_meet (a : Nat) (s : ST) (p : Int) (q : Int) (Q : ST → Int → Prop) : Prop := bx <| isA a → RA s → R32 p → R32 q → q_met mX0_meet (qs layX s) [.ref a, .int (Int32.ofInt p), .int (Int32.ofInt q)] (PB layX Q)
theorem C_X0_meet.mono {a : Nat} {s : ST} {p : Int} {q : Int} {Q Q' : ST → Int → Prop} (h : C_X0_meet a s p q Q) (hq : ∀ s v, Q s v → Q' s v) : C_X0_meet a s p q Q' := ⟨fun ha hA hrp hrq => q_met.mono (h.1 ha hA hrp hrq) (fun _ _ => PB.mono hq), trivial⟩
set_option maxRecDepth 20000 in
theorem s_X0_meet {a : Nat} {s : ST} {p : Int} {q : Int} {Q : ST → Int → Prop} (h : isA a → RA s → R32 p → R32 q → (C_X0_clashOf a s ((lshl 1 (s.1 (akT a) 1)) - 1) (fun s2 v2 => (v2 = 0 ∨ v2 = 1) → ((¬ v2 = 0 → Q s2 0) ∧ (v2 = 0 → (P_X0_nodeOf a s2 p ∧ (P_X0_nodeOf a s2 q ∧ (C_X4_join s2 (F_X0_nodeOf a s2 p) (F_X0_nodeOf a s2 q) (fun s7 v7 => (v7 = 0 ∨ v7 = 1) → ((v7 = 0 → Q s7 0) ∧ (¬ v7 = 0 → (C_X4_hasRing s7 (fun s8 v8 => (v8 = 0 ∨ v8 = 1) → ((¬ v8 = 0 → Q s8 0) ∧ (v8 = 0 → Q s8 1))))))))))))))) : C_X0_meet a s p q Q := by
  refine ⟨?_, trivial⟩
  intro ha hA hrp hrq
  have h := h ha hA hrp hrq
  refine q_enter (by decide) (Nat.le_of_ble_eq_true rfl) ?_
  refine q_aload_n eX0_meet_0 rfl ?_
  refine q_aload_n eX0_meet_1 rfl ?_
  refine q_getR (c := 0) (n := 0) (k := 6) (a := (akT a)) eX0_meet_2 (al_0 ha) (by decide) (by decide) fX0_33 rfl (ar_6 ha) ?_
  refine q_V0 (ci := 9) (n := 0) eX0_meet_5 DX9_all lX0_107 (tl_0 (akT_ok ha)) (by decide) rfl rfl rfl rfl (p_X9_all (akT_ok ha) hA) ?_
  rintro _ _ ⟨rfl, rfl⟩
  refine q_V1 (ci := 0) (n := 0) eX0_meet_8 DX0_clashOf lX0_111 (al_0 ha) (by decide) rfl rfl rfl rfl (h.1 ha hA) ?_
  rintro _ _ ⟨s2, v2, rfl, hA2, b2, rfl, h⟩
  have h := h b2
  refine q_iz_ne (tgt := 48) (a := v2) eX0_meet_11 (by decide) (ofz (r01 b2)) (fun c11 => ?_) (fun c11 => ?_)
  · have h := h.1 c11
    refine q_ic (v := Int32.ofInt 0) eX0_meet_48 rfl ?_
    exact q_zret eX0_meet_49 rfl (z01 (Or.inl rfl)) ⟨_, _, rfl, hA2, (Or.inl rfl), rfl, h⟩
  · have h := h.2 c11
    refine q_aload_n eX0_meet_14 rfl ?_
    refine q_getR (c := 0) (n := 0) (k := 7) (a := 38) eX0_meet_15 (al_0 ha) (by decide) (by decide) fX0_37 rfl (ar_7 ha) ?_
    refine q_aload_n eX0_meet_18 rfl ?_
    refine q_iload_n eX0_meet_19 rfl ?_
    have f4 := h.1
    have h := h.2
    refine q_V1 (ci := 0) (n := 0) eX0_meet_20 DX0_nodeOf lX0_132 (al_0 ha) (by decide) rfl rfl rfl rfl (p_X0_nodeOf f4 ha hA2 hrp) ?_
    rintro _ _ ⟨r3, rfl, rfl⟩
    refine q_aload_n eX0_meet_23 rfl ?_
    refine q_iload_n eX0_meet_24 rfl ?_
    have f6 := h.1
    have h := h.2
    refine q_V1 (ci := 0) (n := 0) eX0_meet_25 DX0_nodeOf lX0_132 (al_0 ha) (by decide) rfl rfl rfl rfl (p_X0_nodeOf f6 ha hA2 hrq) ?_
    rintro _ _ ⟨r5, rfl, rfl⟩
    refine q_V2 (ci := 4) (n := 0) eX0_meet_28 DX4_join lX0_135 rfl (by decide) rfl rfl rfl rfl (h.1 hA2 r3 r5) ?_
    rintro _ _ ⟨s7, v7, rfl, hA7, b7, rfl, h⟩
    have h := h b7
    refine q_iz_eq (tgt := 48) (a := v7) eX0_meet_31 (by decide) (ofz (r01 b7)) (fun c31 => ?_) (fun c31 => ?_)
    · have h := h.1 c31
      refine q_ic (v := Int32.ofInt 0) eX0_meet_48 rfl ?_
      exact q_zret eX0_meet_49 rfl (z01 (Or.inl rfl)) ⟨_, _, rfl, hA7, (Or.inl rfl), rfl, h⟩
    · have h := h.2 c31
      refine q_aload_n eX0_meet_34 rfl ?_
      refine q_getR (c := 0) (n := 0) (k := 7) (a := 38) eX0_meet_35 (al_0 ha) (by decide) (by decide) fX0_37 rfl (ar_7 ha) ?_
      refine q_V0 (ci := 4) (n := 0) eX0_meet_38 DX4_hasRing lX0_141 rfl (by decide) rfl rfl rfl rfl (h.1 hA7) ?_
      rintro _ _ ⟨s8, v8, rfl, hA8, b8, rfl, h⟩
      have h := h b8
      refine q_iz_ne (tgt := 48) (a := v8) eX0_meet_41 (by decide) (ofz (r01 b8)) (fun c41 => ?_) (fun c41 => ?_)
      · have h := h.1 c41
        refine q_ic (v := Int32.ofInt 0) eX0_meet_48 rfl ?_
        exact q_zret eX0_meet_49 rfl (z01 (Or.inl rfl)) ⟨_, _, rfl, hA8, (Or.inl rfl), rfl, h⟩
      · have h := h.2 c41
        refine q_ic (v := Int32.ofInt 1) eX0_meet_44 rfl ?_
        refine q_goto (tgt := 49) eX0_meet_45 (by decide) ?_
        exact q_zret eX0_meet_49 rfl (z01 (Or.inr rfl)) ⟨_, _, rfl, hA8, (Or.inr rfl), rfl, h⟩
theorem eX1_forget_0 : decode cX1_forget 0 = .ok (.aload_n 0, 1) := by decide +kernel
theorem eX1_forget_1 : decode cX1_forget 1 = .ok (.iconst 0, 1) := by decide +kernel
theorem eX1_forget_2 : decode cX1_forget 2 = .ok (.putfield 38, 3) := by decide +kernel
theorem eX1_forget_5 : decode cX1_forget 5 = .ok (.aload_n 0, 1) := by decide +kernel
theorem eX1_forget_6 : decode cX1_forget 6 = .ok (.iconst 0, 1) := by decide +kernel
theorem eX1_forget_7 : decode cX1_forget 7 = .ok (.putfield 42, 3) := by decide +kernel
theorem eX1_forget_10 : decode cX1_forget 10 = .ok (.return_, 1) := by decide +kernel
def C_X1_forget (s : ST) (Q : ST → Prop) : Prop := bx <| RA s → q_met mX1_forget (qs layX s) [.ref 69] (PV layX Q)
theorem C_X1_forget.mono {s : ST} {Q Q' : ST → Prop} (h : C_X1_forget s Q) (hq : ∀ s, Q s → Q' s) : C_X1_forget s Q' := ⟨fun hA => q_met.mono (h.1 hA) (fun _ _ => PV.mono hq), trivial⟩
set_option maxRecDepth 20000 in
theorem s_X1_forget {s : ST} {Q : ST → Prop} (h : RA s → Q (ui (ui s 69 0 0) 69 4 0)) : C_X1_forget s Q := by
  refine ⟨?_, trivial⟩
  intro hA
  have h := h hA
  refine q_enter (by decide) (Nat.le_of_ble_eq_true rfl) ?_
  refine q_aload_n eX1_forget_0 rfl ?_
  refine q_ic (v := Int32.ofInt 0) eX1_forget_1 rfl ?_
  refine z_putZ (c := 1) (n := 0) (k := 0) (kz := 0) eX1_forget_2 rfl (by decide) (by decide) fX1_38 rfl rfl rfl (z01 (Or.inl rfl)) ?_
  refine q_aload_n eX1_forget_5 rfl ?_
  refine q_ic (v := Int32.ofInt 0) eX1_forget_6 rfl ?_
  refine z_putI (c := 1) (n := 0) (k := 4) (kz := 4) eX1_forget_7 rfl (by decide) (by decide) fX1_42 rfl rfl rfl ?_
  exact q_ret eX1_forget_10 rfl ⟨_, rfl, (ra_ui (ra_ui hA (r32l rfl)) (r32l rfl)), rfl, h⟩
theorem eX1_begin_0 : decode cX1_begin 0 = .ok (.aload_n 0, 1) := by decide +kernel
theorem eX1_begin_1 : decode cX1_begin 1 = .ok (.aload_n 0, 1) := by decide +kernel
theorem eX1_begin_2 : decode cX1_begin 2 = .ok (.getfield 30, 3) := by decide +kernel
theorem eX1_begin_5 : decode cX1_begin 5 = .ok (.getfield 46, 3) := by decide +kernel
theorem eX1_begin_8 : decode cX1_begin 8 = .ok (.putfield 83, 3) := by decide +kernel
theorem eX1_begin_11 : decode cX1_begin 11 = .ok (.aload_n 0, 1) := by decide +kernel
theorem eX1_begin_12 : decode cX1_begin 12 = .ok (.aload_n 0, 1) := by decide +kernel
theorem eX1_begin_13 : decode cX1_begin 13 = .ok (.getfield 30, 3) := by decide +kernel
theorem eX1_begin_16 : decode cX1_begin 16 = .ok (.invokevirtual 65, 3) := by decide +kernel
theorem eX1_begin_19 : decode cX1_begin 19 = .ok (.putfield 51, 3) := by decide +kernel
theorem eX1_begin_22 : decode cX1_begin 22 = .ok (.aload_n 0, 1) := by decide +kernel
theorem eX1_begin_23 : decode cX1_begin 23 = .ok (.aload_n 0, 1) := by decide +kernel
theorem eX1_begin_24 : decode cX1_begin 24 = .ok (.getfield 51, 3) := by decide +kernel
theorem eX1_begin_27 : decode cX1_begin 27 = .ok (.lconst 1, 1) := by decide +kernel
theorem eX1_begin_28 : decode cX1_begin 28 = .ok (.ladd, 1) := by decide +kernel
theorem eX1_begin_29 : decode cX1_begin 29 = .ok (.putfield 84, 3) := by decide +kernel
theorem eX1_begin_32 : decode cX1_begin 32 = .ok (.iconst 0, 1) := by decide +kernel
theorem eX1_begin_33 : decode cX1_begin 33 = .ok (.istore_n 1, 1) := by decide +kernel
theorem eX1_begin_34 : decode cX1_begin 34 = .ok (.iload_n 1, 1) := by decide +kernel
theorem eX1_begin_35 : decode cX1_begin 35 = .ok (.aload_n 0, 1) := by decide +kernel
theorem eX1_begin_36 : decode cX1_begin 36 = .ok (.getfield 83, 3) := by decide +kernel
theorem eX1_begin_39 : decode cX1_begin 39 = .ok (.if_icmp .ge 50, 3) := by decide +kernel
theorem eX1_begin_42 : decode cX1_begin 42 = .ok (.iload_n 1, 1) := by decide +kernel
theorem eX1_begin_43 : decode cX1_begin 43 = .ok (.bipush 24, 2) := by decide +kernel
theorem eX1_begin_45 : decode cX1_begin 45 = .ok (.if_icmp .ge 44, 3) := by decide +kernel
theorem eX1_begin_48 : decode cX1_begin 48 = .ok (.aload_n 0, 1) := by decide +kernel
theorem eX1_begin_49 : decode cX1_begin 49 = .ok (.getfield 30, 3) := by decide +kernel
theorem eX1_begin_52 : decode cX1_begin 52 = .ok (.getfield 87, 3) := by decide +kernel
theorem eX1_begin_55 : decode cX1_begin 55 = .ok (.iload_n 1, 1) := by decide +kernel
theorem eX1_begin_56 : decode cX1_begin 56 = .ok (.iaload, 1) := by decide +kernel
theorem eX1_begin_57 : decode cX1_begin 57 = .ok (.i2l, 1) := by decide +kernel
theorem eX1_begin_58 : decode cX1_begin 58 = .ok (.bipush 24, 2) := by decide +kernel
theorem eX1_begin_60 : decode cX1_begin 60 = .ok (.lshl, 1) := by decide +kernel
theorem eX1_begin_61 : decode cX1_begin 61 = .ok (.lstore_n 2, 1) := by decide +kernel
theorem eX1_begin_62 : decode cX1_begin 62 = .ok (.aload_n 0, 1) := by decide +kernel
theorem eX1_begin_63 : decode cX1_begin 63 = .ok (.getfield 15, 3) := by decide +kernel
theorem eX1_begin_66 : decode cX1_begin 66 = .ok (.iload_n 1, 1) := by decide +kernel
theorem eX1_begin_67 : decode cX1_begin 67 = .ok (.lload_n 2, 1) := by decide +kernel
theorem eX1_begin_68 : decode cX1_begin 68 = .ok (.lconst 1, 1) := by decide +kernel
theorem eX1_begin_69 : decode cX1_begin 69 = .ok (.iload_n 1, 1) := by decide +kernel
theorem eX1_begin_70 : decode cX1_begin 70 = .ok (.lshl, 1) := by decide +kernel
theorem eX1_begin_71 : decode cX1_begin 71 = .ok (.ladd, 1) := by decide +kernel
theorem eX1_begin_72 : decode cX1_begin 72 = .ok (.lastore, 1) := by decide +kernel
theorem eX1_begin_73 : decode cX1_begin 73 = .ok (.aload_n 0, 1) := by decide +kernel
theorem eX1_begin_74 : decode cX1_begin 74 = .ok (.dup, 1) := by decide +kernel
theorem eX1_begin_75 : decode cX1_begin 75 = .ok (.getfield 84, 3) := by decide +kernel
theorem eX1_begin_78 : decode cX1_begin 78 = .ok (.lload_n 2, 1) := by decide +kernel
theorem eX1_begin_79 : decode cX1_begin 79 = .ok (.ladd, 1) := by decide +kernel
theorem eX1_begin_80 : decode cX1_begin 80 = .ok (.putfield 84, 3) := by decide +kernel
theorem eX1_begin_83 : decode cX1_begin 83 = .ok (.iinc 1 1, 3) := by decide +kernel
theorem eX1_begin_86 : decode cX1_begin 86 = .ok (.goto (-52), 3) := by decide +kernel
theorem eX1_begin_89 : decode cX1_begin 89 = .ok (.aload_n 0, 1) := by decide +kernel
theorem eX1_begin_90 : decode cX1_begin 90 = .ok (.getfield 18, 3) := by decide +kernel
theorem eX1_begin_93 : decode cX1_begin 93 = .ok (.iconst 0, 1) := by decide +kernel
theorem eX1_begin_94 : decode cX1_begin 94 = .ok (.lconst 0, 1) := by decide +kernel
theorem eX1_begin_95 : decode cX1_begin 95 = .ok (.lastore, 1) := by decide +kernel
theorem eX1_begin_96 : decode cX1_begin 96 = .ok (.aload_n 0, 1) := by decide +kernel
theorem eX1_begin_97 : decode cX1_begin 97 = .ok (.getfield 21, 3) := by decide +kernel
theorem eX1_begin_100 : decode cX1_begin 100 = .ok (.iconst 0, 1) := by decide +kernel
theorem eX1_begin_101 : decode cX1_begin 101 = .ok (.lconst 0, 1) := by decide +kernel
theorem eX1_begin_102 : decode cX1_begin 102 = .ok (.lastore, 1) := by decide +kernel
theorem eX1_begin_103 : decode cX1_begin 103 = .ok (.aload_n 0, 1) := by decide +kernel
theorem eX1_begin_104 : decode cX1_begin 104 = .ok (.getfield 24, 3) := by decide +kernel
theorem eX1_begin_107 : decode cX1_begin 107 = .ok (.iconst 0, 1) := by decide +kernel
theorem eX1_begin_108 : decode cX1_begin 108 = .ok (.lconst 0, 1) := by decide +kernel
theorem eX1_begin_109 : decode cX1_begin 109 = .ok (.lastore, 1) := by decide +kernel
theorem eX1_begin_110 : decode cX1_begin 110 = .ok (.return_, 1) := by decide +kernel
def C_X1_begin (s : ST) (Q : ST → Prop) : Prop := bx <| RA s → q_met mX1_begin (qs layX s) [.ref 69] (PV layX Q)
theorem C_X1_begin.mono {s : ST} {Q Q' : ST → Prop} (h : C_X1_begin s Q) (hq : ∀ s, Q s → Q' s) : C_X1_begin s Q' := ⟨fun hA => q_met.mono (h.1 hA) (fun _ _ => PV.mono hq), trivial⟩
def K_X1_begin_89 (s : ST) (Q : ST → Prop) : Prop := bx <| RA s → q_K mX1_begin (qs layX s) 0 0 89 [(0, .ref 69)] [] (q_fin mX1_begin (PV layX Q))
def K_X1_begin_34 (s : ST) (a1 : Int) (Q : ST → Prop) : Prop := bx <| RA s → R32 a1 → q_K mX1_begin (qs layX s) 0 0 34 [(0, .ref 69), (1, .int (Int32.ofInt a1))] [] (q_fin mX1_begin (PV layX Q))
set_option maxRecDepth 20000 in
theorem s_X1_begin_89 {s : ST} {Q : ST → Prop} (h : RA s → (((0 : Int) ≤ (0 : Int) ∧ (0 : Int) < 26) ∧ Q (uj (uj (uj s 72 0 0) 73 0 0) 74 0 0))) : K_X1_begin_89 s Q := by
  refine ⟨?_, trivial⟩
  intro hA
  have h := h hA
  refine q_aload_n eX1_begin_89 rfl ?_
  refine q_getR (c := 1) (n := 0) (k := 9) (a := 72) eX1_begin_90 rfl (by decide) (by decide) fX1_18 rfl rfl ?_
  refine q_ic (v := Int32.ofInt 0) eX1_begin_93 rfl ?_
  refine q_lc (v := 0) eX1_begin_94 rfl ?_
  have f1 := h.1
  have h := h.2
  refine z_last (n := 26) eX1_begin_95 rfl (ofz (r32l rfl)) f1  ?_
  refine q_aload_n eX1_begin_96 rfl ?_
  refine q_getR (c := 1) (n := 0) (k := 10) (a := 73) eX1_begin_97 rfl (by decide) (by decide) fX1_21 rfl rfl ?_
  refine q_ic (v := Int32.ofInt 0) eX1_begin_100 rfl ?_
  refine q_lc (v := 0) eX1_begin_101 rfl ?_
  refine z_last (n := 26) eX1_begin_102 rfl (ofz (r32l rfl)) f1  ?_
  refine q_aload_n eX1_begin_103 rfl ?_
  refine q_getR (c := 1) (n := 0) (k := 11) (a := 74) eX1_begin_104 rfl (by decide) (by decide) fX1_24 rfl rfl ?_
  refine q_ic (v := Int32.ofInt 0) eX1_begin_107 rfl ?_
  refine q_lc (v := 0) eX1_begin_108 rfl ?_
  refine z_last (n := 26) eX1_begin_109 rfl (ofz (r32l rfl)) f1  ?_
  exact q_ret eX1_begin_110 rfl ⟨_, rfl, (ra_uj (ra_uj (ra_uj hA))), rfl, h⟩
set_option maxRecDepth 20000 in
theorem s_X1_begin_34 {s : ST} {a1 : Int} {Q : ST → Prop} (h : RA s → R32 a1 → ((s.1 69 3 ≤ a1 → K_X1_begin_89 s Q) ∧ (¬ s.1 69 3 ≤ a1 → ((24 ≤ a1 → K_X1_begin_89 s Q) ∧ (¬ 24 ≤ a1 → (((0 : Int) ≤ a1 ∧ a1 < 40) ∧ (((0 : Int) ≤ a1 ∧ a1 < 24) ∧ (R32 (a1 + 1) ∧ K_X1_begin_34 (uj (uj s 71 a1 ((lshl (Int64.ofInt (s.1 9 a1)) 24) + (lshl 1 a1))) 69 2 (s.2 69 2 + (lshl (Int64.ofInt (s.1 9 a1)) 24))) (a1 + 1) Q)))))))) : K_X1_begin_34 s a1 Q := by
  refine ⟨?_, trivial⟩
  intro hA hra1
  have h := h hA hra1
  refine q_iload_n eX1_begin_34 rfl ?_
  refine q_aload_n eX1_begin_35 rfl ?_
  refine q_getf (c := 1) (n := 0) (k := 3) (v := .int (Int32.ofInt (s.1 69 3))) eX1_begin_36 rfl (by decide) (by decide) fX1_83 rfl ?_
  refine q_cz_ge (tgt := 89) (a := a1) (b := s.1 69 3) eX1_begin_39 (by decide) (ofz hra1) (ofz (hA _ _)) (fun c39 => ?_) (fun c39 => ?_)
  · have h := h.1 c39
    exact q_subL rfl (h.1 hA)
  · have h := h.2 c39
    refine q_iload_n eX1_begin_42 rfl ?_
    refine q_bi (v := Int32.ofInt 24) eX1_begin_43 rfl ?_
    refine q_cz_ge (tgt := 89) (a := a1) (b := 24) eX1_begin_45 (by decide) (ofz hra1) (ofz (r32l rfl)) (fun c45 => ?_) (fun c45 => ?_)
    · have h := h.1 c45
      exact q_subL rfl (h.1 hA)
    · have h := h.2 c45
      refine q_aload_n eX1_begin_48 rfl ?_
      refine q_getR (c := 1) (n := 0) (k := 5) (a := 2) eX1_begin_49 rfl (by decide) (by decide) fX1_30 rfl rfl ?_
      refine q_getR (c := 9) (n := 0) (k := 9) (a := 9) eX1_begin_52 rfl (by decide) (by decide) fX1_87 rfl rfl ?_
      refine q_iload_n eX1_begin_55 rfl ?_
      have f1 := h.1
      have h := h.2
      refine z_iald (n := 40) eX1_begin_56 rfl (ofz hra1) f1 ?_
      refine q_topI (v := Int32.ofInt (s.1 9 a1)) rfl ?_
      refine z_i2l eX1_begin_57 (hA _ _) ?_
      refine q_bi (v := Int32.ofInt 24) eX1_begin_58 rfl ?_
      refine z_lshl eX1_begin_60 ?_
      refine q_lstore_n eX1_begin_61 (Nat.le_of_ble_eq_true rfl) ?_
      refine q_aload_n eX1_begin_62 rfl ?_
      refine q_getR (c := 1) (n := 0) (k := 8) (a := 71) eX1_begin_63 rfl (by decide) (by decide) fX1_15 rfl rfl ?_
      refine q_iload_n eX1_begin_66 rfl ?_
      refine q_lload_n eX1_begin_67 rfl ?_
      refine q_lc (v := 1) eX1_begin_68 rfl ?_
      refine q_iload_n eX1_begin_69 rfl ?_
      refine z_lshl eX1_begin_70 ?_
      refine q_ladd eX1_begin_71 ?_
      have f2 := h.1
      have h := h.2
      refine z_last (n := 24) eX1_begin_72 rfl (ofz hra1) f2  ?_
      refine q_aload_n eX1_begin_73 rfl ?_
      refine q_dup eX1_begin_74 rfl ?_
      refine q_getf (c := 1) (n := 0) (k := 2) (v := .long (s.2 69 2)) eX1_begin_75 rfl (by decide) (by decide) fX1_84 rfl ?_
      refine q_lload_n eX1_begin_78 rfl ?_
      refine q_ladd eX1_begin_79 ?_
      refine z_putJ (c := 1) (n := 0) (k := 2) (kz := 2) eX1_begin_80 rfl (by decide) (by decide) fX1_84 rfl rfl rfl ?_
      have r3 := h.1
      have h := h.2
      refine z_inc (m := 1) eX1_begin_83 rfl (Nat.le_of_ble_eq_true rfl) rfl ?_
      refine q_goto (tgt := 34) eX1_begin_86 (by decide) ?_
      exact q_subL rfl (h.1 (ra_uj (ra_uj hA)) r3)
set_option maxRecDepth 20000 in
theorem s_X1_begin {s : ST} {Q : ST → Prop} (h : RA s → K_X1_begin_34 (uj (uj (ui s 69 3 (s.1 2 1)) 69 1 ((lshl 1 ((ui s 69 3 (s.1 2 1)).1 2 1)) - 1)) 69 2 (((lshl 1 ((ui s 69 3 (s.1 2 1)).1 2 1)) - 1) + 1)) 0 Q) : C_X1_begin s Q := by
  refine ⟨?_, trivial⟩
  intro hA
  have h := h hA
  refine q_enter (by decide) (Nat.le_of_ble_eq_true rfl) ?_
  refine q_aload_n eX1_begin_0 rfl ?_
  refine q_aload_n eX1_begin_1 rfl ?_
  refine q_getR (c := 1) (n := 0) (k := 5) (a := 2) eX1_begin_2 rfl (by decide) (by decide) fX1_30 rfl rfl ?_
  refine q_getf (c := 9) (n := 0) (k := 1) (v := .int (Int32.ofInt (s.1 2 1))) eX1_begin_5 rfl (by decide) (by decide) fX1_46 rfl ?_
  refine z_putI (c := 1) (n := 0) (k := 3) (kz := 3) eX1_begin_8 rfl (by decide) (by decide) fX1_83 rfl rfl rfl ?_
  refine q_aload_n eX1_begin_11 rfl ?_
  refine q_aload_n eX1_begin_12 rfl ?_
  refine q_getR (c := 1) (n := 0) (k := 5) (a := 2) eX1_begin_13 rfl (by decide) (by decide) fX1_30 rfl rfl ?_
  refine q_V0 (ci := 9) (n := 0) eX1_begin_16 DX9_all lX1_65 rfl (by decide) rfl rfl rfl rfl (p_X9_all (by decide) (ra_ui hA (hA _ _))) ?_
  rintro _ _ ⟨rfl, rfl⟩
  refine z_putJ (c := 1) (n := 0) (k := 1) (kz := 1) eX1_begin_19 rfl (by decide) (by decide) fX1_51 rfl rfl rfl ?_
  refine q_aload_n eX1_begin_22 rfl ?_
  refine q_aload_n eX1_begin_23 rfl ?_
  refine q_getf (c := 1) (n := 0) (k := 1) (v := .long ((lshl 1 ((ui s 69 3 (s.1 2 1)).1 2 1)) - 1)) eX1_begin_24 rfl (by decide) (by decide) fX1_51 rfl ?_
  refine q_lc (v := 1) eX1_begin_27 rfl ?_
  refine q_ladd eX1_begin_28 ?_
  refine z_putJ (c := 1) (n := 0) (k := 2) (kz := 2) eX1_begin_29 rfl (by decide) (by decide) fX1_84 rfl rfl rfl ?_
  refine q_ic (v := Int32.ofInt 0) eX1_begin_32 rfl ?_
  refine q_istore_n eX1_begin_33 (Nat.le_of_ble_eq_true rfl) ?_
  exact q_subL rfl (h.1 (ra_uj (ra_uj (ra_ui hA (hA _ _)))) (r32l rfl))
theorem eX1_leastWeight_0 : decode cX1_leastWeight 0 = .ok (.ldc2_w 100, 3) := by decide +kernel
theorem eX1_leastWeight_3 : decode cX1_leastWeight 3 = .ok (.lstore_n 3, 1) := by decide +kernel
theorem eX1_leastWeight_4 : decode cX1_leastWeight 4 = .ok (.iconst 0, 1) := by decide +kernel
theorem eX1_leastWeight_5 : decode cX1_leastWeight 5 = .ok (.istore 5, 2) := by decide +kernel
theorem eX1_leastWeight_7 : decode cX1_leastWeight 7 = .ok (.iload 5, 2) := by decide +kernel
theorem eX1_leastWeight_9 : decode cX1_leastWeight 9 = .ok (.aload_n 0, 1) := by decide +kernel
theorem eX1_leastWeight_10 : decode cX1_leastWeight 10 = .ok (.getfield 83, 3) := by decide +kernel
theorem eX1_leastWeight_13 : decode cX1_leastWeight 13 = .ok (.if_icmp .ge 47, 3) := by decide +kernel
theorem eX1_leastWeight_16 : decode cX1_leastWeight 16 = .ok (.iload 5, 2) := by decide +kernel
theorem eX1_leastWeight_18 : decode cX1_leastWeight 18 = .ok (.bipush 24, 2) := by decide +kernel
theorem eX1_leastWeight_20 : decode cX1_leastWeight 20 = .ok (.if_icmp .ge 40, 3) := by decide +kernel
theorem eX1_leastWeight_23 : decode cX1_leastWeight 23 = .ok (.lload_n 1, 1) := by decide +kernel
theorem eX1_leastWeight_24 : decode cX1_leastWeight 24 = .ok (.iload 5, 2) := by decide +kernel
theorem eX1_leastWeight_26 : decode cX1_leastWeight 26 = .ok (.lushr, 1) := by decide +kernel
theorem eX1_leastWeight_27 : decode cX1_leastWeight 27 = .ok (.lconst 1, 1) := by decide +kernel
theorem eX1_leastWeight_28 : decode cX1_leastWeight 28 = .ok (.land, 1) := by decide +kernel
theorem eX1_leastWeight_29 : decode cX1_leastWeight 29 = .ok (.lconst 0, 1) := by decide +kernel
theorem eX1_leastWeight_30 : decode cX1_leastWeight 30 = .ok (.lcmp, 1) := by decide +kernel
theorem eX1_leastWeight_31 : decode cX1_leastWeight 31 = .ok (.ifCond .eq 23, 3) := by decide +kernel
theorem eX1_leastWeight_34 : decode cX1_leastWeight 34 = .ok (.aload_n 0, 1) := by decide +kernel
theorem eX1_leastWeight_35 : decode cX1_leastWeight 35 = .ok (.getfield 15, 3) := by decide +kernel
theorem eX1_leastWeight_38 : decode cX1_leastWeight 38 = .ok (.iload 5, 2) := by decide +kernel
theorem eX1_leastWeight_40 : decode cX1_leastWeight 40 = .ok (.laload, 1) := by decide +kernel
theorem eX1_leastWeight_41 : decode cX1_leastWeight 41 = .ok (.lload_n 3, 1) := by decide +kernel
theorem eX1_leastWeight_42 : decode cX1_leastWeight 42 = .ok (.lcmp, 1) := by decide +kernel
theorem eX1_leastWeight_43 : decode cX1_leastWeight 43 = .ok (.ifCond .ge 11, 3) := by decide +kernel
theorem eX1_leastWeight_46 : decode cX1_leastWeight 46 = .ok (.aload_n 0, 1) := by decide +kernel
theorem eX1_leastWeight_47 : decode cX1_leastWeight 47 = .ok (.getfield 15, 3) := by decide +kernel
theorem eX1_leastWeight_50 : decode cX1_leastWeight 50 = .ok (.iload 5, 2) := by decide +kernel
theorem eX1_leastWeight_52 : decode cX1_leastWeight 52 = .ok (.laload, 1) := by decide +kernel
theorem eX1_leastWeight_53 : decode cX1_leastWeight 53 = .ok (.lstore_n 3, 1) := by decide +kernel
theorem eX1_leastWeight_54 : decode cX1_leastWeight 54 = .ok (.iinc 5 1, 3) := by decide +kernel
theorem eX1_leastWeight_57 : decode cX1_leastWeight 57 = .ok (.goto (-50), 3) := by decide +kernel
theorem eX1_leastWeight_60 : decode cX1_leastWeight 60 = .ok (.lload_n 3, 1) := by decide +kernel
theorem eX1_leastWeight_61 : decode cX1_leastWeight 61 = .ok (.lreturn, 1) := by decide +kernel
def C_X1_leastWeight (s : ST) (p : Int64) (Q : ST → Int64 → Prop) : Prop := bx <| RA s → q_met mX1_leastWeight (qs layX s) [.ref 69, .long p] (PL layX Q)
theorem C_X1_leastWeight.mono {s : ST} {p : Int64} {Q Q' : ST → Int64 → Prop} (h : C_X1_leastWeight s p Q) (hq : ∀ s v, Q s v → Q' s v) : C_X1_leastWeight s p Q' := ⟨fun hA => q_met.mono (h.1 hA) (fun _ _ => PL.mono hq), trivial⟩
def K_X1_leastWeight_7 (s : ST) (a1 : Int64) (a3 : Int64) (a5 : Int) (Q : ST → Int64 → Prop) : Prop := bx <| RA s → R32 a5 → q_K mX1_leastWeight (qs layX s) 0 0 7 [(0, .ref 69), (1, .long a1), (3, .long a3), (5, .int (Int32.ofInt a5))] [] (q_fin mX1_leastWeight (PL layX Q))
set_option maxRecDepth 20000 in
theorem s_X1_leastWeight_7 {s : ST} {a1 : Int64} {a3 : Int64} {a5 : Int} {Q : ST → Int64 → Prop} (h : RA s → R32 a5 → ((s.1 69 3 ≤ a5 → Q s a3) ∧ (¬ s.1 69 3 ≤ a5 → ((24 ≤ a5 → Q s a3) ∧ (¬ 24 ≤ a5 → ((((lushr a1 a5) &&& 1) = 0 → (R32 (a5 + 1) ∧ K_X1_leastWeight_7 s a1 a3 (a5 + 1) Q)) ∧ (¬ ((lushr a1 a5) &&& 1) = 0 → (((0 : Int) ≤ a5 ∧ a5 < 24) ∧ ((¬ (s.2 71 a5) < a3 → (R32 (a5 + 1) ∧ K_X1_leastWeight_7 s a1 a3 (a5 + 1) Q)) ∧ ((s.2 71 a5) < a3 → (R32 (a5 + 1) ∧ K_X1_leastWeight_7 s a1 (s.2 71 a5) (a5 + 1) Q))))))))))) : K_X1_leastWeight_7 s a1 a3 a5 Q := by
  refine ⟨?_, trivial⟩
  intro hA hra5
  have h := h hA hra5
  refine q_iload eX1_leastWeight_7 rfl ?_
  refine q_aload_n eX1_leastWeight_9 rfl ?_
  refine q_getf (c := 1) (n := 0) (k := 3) (v := .int (Int32.ofInt (s.1 69 3))) eX1_leastWeight_10 rfl (by decide) (by decide) fX1_83 rfl ?_
  refine q_cz_ge (tgt := 60) (a := a5) (b := s.1 69 3) eX1_leastWeight_13 (by decide) (ofz hra5) (ofz (hA _ _)) (fun c13 => ?_) (fun c13 => ?_)
  · have h := h.1 c13
    refine q_lload_n eX1_leastWeight_60 rfl ?_
    exact q_lret eX1_leastWeight_61 rfl ⟨_, _, rfl, hA, rfl, h⟩
  · have h := h.2 c13
    refine q_iload eX1_leastWeight_16 rfl ?_
    refine q_bi (v := Int32.ofInt 24) eX1_leastWeight_18 rfl ?_
    refine q_cz_ge (tgt := 60) (a := a5) (b := 24) eX1_leastWeight_20 (by decide) (ofz hra5) (ofz (r32l rfl)) (fun c20 => ?_) (fun c20 => ?_)
    · have h := h.1 c20
      refine q_lload_n eX1_leastWeight_60 rfl ?_
      exact q_lret eX1_leastWeight_61 rfl ⟨_, _, rfl, hA, rfl, h⟩
    · have h := h.2 c20
      refine q_lload_n eX1_leastWeight_23 rfl ?_
      refine q_iload eX1_leastWeight_24 rfl ?_
      refine z_lushr eX1_leastWeight_26 ?_
      refine q_lc (v := 1) eX1_leastWeight_27 rfl ?_
      refine q_land eX1_leastWeight_28 ?_
      refine q_lc (v := 0) eX1_leastWeight_29 rfl ?_
      refine q_lcmp eX1_leastWeight_30 ?_
      refine z_lc_eq (tgt := 54) eX1_leastWeight_31 (by decide) (fun c31 => ?_) (fun c31 => ?_)
      · have h := h.1 c31
        have r1 := h.1
        have h := h.2
        refine z_inc (m := 1) eX1_leastWeight_54 rfl (Nat.le_of_ble_eq_true rfl) rfl ?_
        refine q_goto (tgt := 7) eX1_leastWeight_57 (by decide) ?_
        exact q_subL rfl (h.1 hA r1)
      · have h := h.2 c31
        refine q_aload_n eX1_leastWeight_34 rfl ?_
        refine q_getR (c := 1) (n := 0) (k := 8) (a := 71) eX1_leastWeight_35 rfl (by decide) (by decide) fX1_15 rfl rfl ?_
        refine q_iload eX1_leastWeight_38 rfl ?_
        have f2 := h.1
        have h := h.2
        refine z_lald (n := 24) eX1_leastWeight_40 rfl (ofz hra5) f2 ?_
        refine q_topL (v := s.2 71 a5) rfl ?_
        refine q_lload_n eX1_leastWeight_41 rfl ?_
        refine q_lcmp eX1_leastWeight_42 ?_
        refine z_lc_ge (tgt := 54) eX1_leastWeight_43 (by decide) (fun c43 => ?_) (fun c43 => ?_)
        · have h := h.1 c43
          have r3 := h.1
          have h := h.2
          refine z_inc (m := 1) eX1_leastWeight_54 rfl (Nat.le_of_ble_eq_true rfl) rfl ?_
          refine q_goto (tgt := 7) eX1_leastWeight_57 (by decide) ?_
          exact q_subL rfl (h.1 hA r3)
        · have h := h.2 c43
          refine q_aload_n eX1_leastWeight_46 rfl ?_
          refine q_getR (c := 1) (n := 0) (k := 8) (a := 71) eX1_leastWeight_47 rfl (by decide) (by decide) fX1_15 rfl rfl ?_
          refine q_iload eX1_leastWeight_50 rfl ?_
          refine z_lald (n := 24) eX1_leastWeight_52 rfl (ofz hra5) f2 ?_
          refine q_topL (v := s.2 71 a5) rfl ?_
          refine q_lstore_n eX1_leastWeight_53 (Nat.le_of_ble_eq_true rfl) ?_
          have r4 := h.1
          have h := h.2
          refine z_inc (m := 1) eX1_leastWeight_54 rfl (Nat.le_of_ble_eq_true rfl) rfl ?_
          refine q_goto (tgt := 7) eX1_leastWeight_57 (by decide) ?_
          exact q_subL rfl (h.1 hA r4)
set_option maxRecDepth 20000 in
theorem s_X1_leastWeight {s : ST} {p : Int64} {Q : ST → Int64 → Prop} (h : RA s → K_X1_leastWeight_7 s p 9223372036854775807 0 Q) : C_X1_leastWeight s p Q := by
  refine ⟨?_, trivial⟩
  intro hA
  have h := h hA
  refine q_enter (by decide) (Nat.le_of_ble_eq_true rfl) ?_
  refine q_ldc2 (v := 9223372036854775807) eX1_leastWeight_0 nX1_100 ?_
  refine q_lstore_n eX1_leastWeight_3 (Nat.le_of_ble_eq_true rfl) ?_
  refine q_ic (v := Int32.ofInt 0) eX1_leastWeight_4 rfl ?_
  refine q_istore eX1_leastWeight_5 (Nat.le_of_ble_eq_true rfl) ?_
  exact q_subL rfl (h.1 hA (r32l rfl))
theorem eJ13_bitCount_95d88_0 : decode cJ13_bitCount_95d88 0 = .ok (.lload_n 0, 1) := by decide +kernel
theorem eJ13_bitCount_95d88_1 : decode cJ13_bitCount_95d88 1 = .ok (.lload_n 0, 1) := by decide +kernel
theorem eJ13_bitCount_95d88_2 : decode cJ13_bitCount_95d88 2 = .ok (.iconst 1, 1) := by decide +kernel
theorem eJ13_bitCount_95d88_3 : decode cJ13_bitCount_95d88 3 = .ok (.lushr, 1) := by decide +kernel
theorem eJ13_bitCount_95d88_4 : decode cJ13_bitCount_95d88 4 = .ok (.ldc2_w 314, 3) := by decide +kernel
theorem eJ13_bitCount_95d88_7 : decode cJ13_bitCount_95d88 7 = .ok (.land, 1) := by decide +kernel
theorem eJ13_bitCount_95d88_8 : decode cJ13_bitCount_95d88 8 = .ok (.lsub, 1) := by decide +kernel
theorem eJ13_bitCount_95d88_9 : decode cJ13_bitCount_95d88 9 = .ok (.lstore_n 0, 1) := by decide +kernel
theorem eJ13_bitCount_95d88_10 : decode cJ13_bitCount_95d88 10 = .ok (.lload_n 0, 1) := by decide +kernel
theorem eJ13_bitCount_95d88_11 : decode cJ13_bitCount_95d88 11 = .ok (.ldc2_w 316, 3) := by decide +kernel
theorem eJ13_bitCount_95d88_14 : decode cJ13_bitCount_95d88 14 = .ok (.land, 1) := by decide +kernel
theorem eJ13_bitCount_95d88_15 : decode cJ13_bitCount_95d88 15 = .ok (.lload_n 0, 1) := by decide +kernel
theorem eJ13_bitCount_95d88_16 : decode cJ13_bitCount_95d88 16 = .ok (.iconst 2, 1) := by decide +kernel
theorem eJ13_bitCount_95d88_17 : decode cJ13_bitCount_95d88 17 = .ok (.lushr, 1) := by decide +kernel
theorem eJ13_bitCount_95d88_18 : decode cJ13_bitCount_95d88 18 = .ok (.ldc2_w 316, 3) := by decide +kernel
theorem eJ13_bitCount_95d88_21 : decode cJ13_bitCount_95d88 21 = .ok (.land, 1) := by decide +kernel
theorem eJ13_bitCount_95d88_22 : decode cJ13_bitCount_95d88 22 = .ok (.ladd, 1) := by decide +kernel
theorem eJ13_bitCount_95d88_23 : decode cJ13_bitCount_95d88 23 = .ok (.lstore_n 0, 1) := by decide +kernel
theorem eJ13_bitCount_95d88_24 : decode cJ13_bitCount_95d88 24 = .ok (.lload_n 0, 1) := by decide +kernel
theorem eJ13_bitCount_95d88_25 : decode cJ13_bitCount_95d88 25 = .ok (.lload_n 0, 1) := by decide +kernel
theorem eJ13_bitCount_95d88_26 : decode cJ13_bitCount_95d88 26 = .ok (.iconst 4, 1) := by decide +kernel
theorem eJ13_bitCount_95d88_27 : decode cJ13_bitCount_95d88 27 = .ok (.lushr, 1) := by decide +kernel
theorem eJ13_bitCount_95d88_28 : decode cJ13_bitCount_95d88 28 = .ok (.ladd, 1) := by decide +kernel
theorem eJ13_bitCount_95d88_29 : decode cJ13_bitCount_95d88 29 = .ok (.ldc2_w 318, 3) := by decide +kernel
theorem eJ13_bitCount_95d88_32 : decode cJ13_bitCount_95d88 32 = .ok (.land, 1) := by decide +kernel
theorem eJ13_bitCount_95d88_33 : decode cJ13_bitCount_95d88 33 = .ok (.lstore_n 0, 1) := by decide +kernel
theorem eJ13_bitCount_95d88_34 : decode cJ13_bitCount_95d88 34 = .ok (.lload_n 0, 1) := by decide +kernel
theorem eJ13_bitCount_95d88_35 : decode cJ13_bitCount_95d88 35 = .ok (.lload_n 0, 1) := by decide +kernel
theorem eJ13_bitCount_95d88_36 : decode cJ13_bitCount_95d88 36 = .ok (.bipush 8, 2) := by decide +kernel
theorem eJ13_bitCount_95d88_38 : decode cJ13_bitCount_95d88 38 = .ok (.lushr, 1) := by decide +kernel
theorem eJ13_bitCount_95d88_39 : decode cJ13_bitCount_95d88 39 = .ok (.ladd, 1) := by decide +kernel
theorem eJ13_bitCount_95d88_40 : decode cJ13_bitCount_95d88 40 = .ok (.lstore_n 0, 1) := by decide +kernel
theorem eJ13_bitCount_95d88_41 : decode cJ13_bitCount_95d88 41 = .ok (.lload_n 0, 1) := by decide +kernel
theorem eJ13_bitCount_95d88_42 : decode cJ13_bitCount_95d88 42 = .ok (.lload_n 0, 1) := by decide +kernel
theorem eJ13_bitCount_95d88_43 : decode cJ13_bitCount_95d88 43 = .ok (.bipush 16, 2) := by decide +kernel
theorem eJ13_bitCount_95d88_45 : decode cJ13_bitCount_95d88 45 = .ok (.lushr, 1) := by decide +kernel
theorem eJ13_bitCount_95d88_46 : decode cJ13_bitCount_95d88 46 = .ok (.ladd, 1) := by decide +kernel
theorem eJ13_bitCount_95d88_47 : decode cJ13_bitCount_95d88 47 = .ok (.lstore_n 0, 1) := by decide +kernel
theorem eJ13_bitCount_95d88_48 : decode cJ13_bitCount_95d88 48 = .ok (.lload_n 0, 1) := by decide +kernel
theorem eJ13_bitCount_95d88_49 : decode cJ13_bitCount_95d88 49 = .ok (.lload_n 0, 1) := by decide +kernel
theorem eJ13_bitCount_95d88_50 : decode cJ13_bitCount_95d88 50 = .ok (.bipush 32, 2) := by decide +kernel
theorem eJ13_bitCount_95d88_52 : decode cJ13_bitCount_95d88 52 = .ok (.lushr, 1) := by decide +kernel
theorem eJ13_bitCount_95d88_53 : decode cJ13_bitCount_95d88 53 = .ok (.ladd, 1) := by decide +kernel
theorem eJ13_bitCount_95d88_54 : decode cJ13_bitCount_95d88 54 = .ok (.lstore_n 0, 1) := by decide +kernel
theorem eJ13_bitCount_95d88_55 : decode cJ13_bitCount_95d88 55 = .ok (.lload_n 0, 1) := by decide +kernel
theorem eJ13_bitCount_95d88_56 : decode cJ13_bitCount_95d88 56 = .ok (.l2i, 1) := by decide +kernel
theorem eJ13_bitCount_95d88_57 : decode cJ13_bitCount_95d88 57 = .ok (.bipush 127, 2) := by decide +kernel
theorem eJ13_bitCount_95d88_59 : decode cJ13_bitCount_95d88 59 = .ok (.iand, 1) := by decide +kernel
theorem eJ13_bitCount_95d88_60 : decode cJ13_bitCount_95d88 60 = .ok (.ireturn, 1) := by decide +kernel
def C_J13_bitCount_95d88 (s : ST) (p : Int64) (Q : ST → Int → Prop) : Prop := bx <| RA s → q_met mJ13_bitCount_95d88 (qs layX s) [.long p] (PI layX Q)
theorem C_J13_bitCount_95d88.mono {s : ST} {p : Int64} {Q Q' : ST → Int → Prop} (h : C_J13_bitCount_95d88 s p Q) (hq : ∀ s v, Q s v → Q' s v) : C_J13_bitCount_95d88 s p Q' := ⟨fun hA => q_met.mono (h.1 hA) (fun _ _ => PI.mono hq), trivial⟩
set_option maxRecDepth 20000 in
theorem s_J13_bitCount_95d88 {s : ST} {p : Int64} {Q : ST → Int → Prop} (h : RA s → Q s (iand (l2i ((((((((p - ((lushr p 1) &&& 6148914691236517205)) &&& 3689348814741910323) + ((lushr (p - ((lushr p 1) &&& 6148914691236517205)) 2) &&& 3689348814741910323)) + (lushr (((p - ((lushr p 1) &&& 6148914691236517205)) &&& 3689348814741910323) + ((lushr (p - ((lushr p 1) &&& 6148914691236517205)) 2) &&& 3689348814741910323)) 4)) &&& 1085102592571150095) + (lushr (((((p - ((lushr p 1) &&& 6148914691236517205)) &&& 3689348814741910323) + ((lushr (p - ((lushr p 1) &&& 6148914691236517205)) 2) &&& 3689348814741910323)) + (lushr (((p - ((lushr p 1) &&& 6148914691236517205)) &&& 3689348814741910323) + ((lushr (p - ((lushr p 1) &&& 6148914691236517205)) 2) &&& 3689348814741910323)) 4)) &&& 1085102592571150095) 8)) + (lushr ((((((p - ((lushr p 1) &&& 6148914691236517205)) &&& 3689348814741910323) + ((lushr (p - ((lushr p 1) &&& 6148914691236517205)) 2) &&& 3689348814741910323)) + (lushr (((p - ((lushr p 1) &&& 6148914691236517205)) &&& 3689348814741910323) + ((lushr (p - ((lushr p 1) &&& 6148914691236517205)) 2) &&& 3689348814741910323)) 4)) &&& 1085102592571150095) + (lushr (((((p - ((lushr p 1) &&& 6148914691236517205)) &&& 3689348814741910323) + ((lushr (p - ((lushr p 1) &&& 6148914691236517205)) 2) &&& 3689348814741910323)) + (lushr (((p - ((lushr p 1) &&& 6148914691236517205)) &&& 3689348814741910323) + ((lushr (p - ((lushr p 1) &&& 6148914691236517205)) 2) &&& 3689348814741910323)) 4)) &&& 1085102592571150095) 8)) 16)) + (lushr (((((((p - ((lushr p 1) &&& 6148914691236517205)) &&& 3689348814741910323) + ((lushr (p - ((lushr p 1) &&& 6148914691236517205)) 2) &&& 3689348814741910323)) + (lushr (((p - ((lushr p 1) &&& 6148914691236517205)) &&& 3689348814741910323) + ((lushr (p - ((lushr p 1) &&& 6148914691236517205)) 2) &&& 3689348814741910323)) 4)) &&& 1085102592571150095) + (lushr (((((p - ((lushr p 1) &&& 6148914691236517205)) &&& 3689348814741910323) + ((lushr (p - ((lushr p 1) &&& 6148914691236517205)) 2) &&& 3689348814741910323)) + (lushr (((p - ((lushr p 1) &&& 6148914691236517205)) &&& 3689348814741910323) + ((lushr (p - ((lushr p 1) &&& 6148914691236517205)) 2) &&& 3689348814741910323)) 4)) &&& 1085102592571150095) 8)) + (lushr ((((((p - ((lushr p 1) &&& 6148914691236517205)) &&& 3689348814741910323) + ((lushr (p - ((lushr p 1) &&& 6148914691236517205)) 2) &&& 3689348814741910323)) + (lushr (((p - ((lushr p 1) &&& 6148914691236517205)) &&& 3689348814741910323) + ((lushr (p - ((lushr p 1) &&& 6148914691236517205)) 2) &&& 3689348814741910323)) 4)) &&& 1085102592571150095) + (lushr (((((p - ((lushr p 1) &&& 6148914691236517205)) &&& 3689348814741910323) + ((lushr (p - ((lushr p 1) &&& 6148914691236517205)) 2) &&& 3689348814741910323)) + (lushr (((p - ((lushr p 1) &&& 6148914691236517205)) &&& 3689348814741910323) + ((lushr (p - ((lushr p 1) &&& 6148914691236517205)) 2) &&& 3689348814741910323)) 4)) &&& 1085102592571150095) 8)) 16)) 32))) 127)) : C_J13_bitCount_95d88 s p Q := by
  refine ⟨?_, trivial⟩
  intro hA
  have h := h hA
  refine q_enter (by decide) (Nat.le_of_ble_eq_true rfl) ?_
  refine q_lload_n eJ13_bitCount_95d88_0 rfl ?_
  refine q_lload_n eJ13_bitCount_95d88_1 rfl ?_
  refine q_ic (v := Int32.ofInt 1) eJ13_bitCount_95d88_2 rfl ?_
  refine z_lushr eJ13_bitCount_95d88_3 ?_
  refine q_ldc2 (v := 6148914691236517205) eJ13_bitCount_95d88_4 nJ13_314 ?_
  refine q_land eJ13_bitCount_95d88_7 ?_
  refine q_lsub eJ13_bitCount_95d88_8 ?_
  refine q_lstore_n eJ13_bitCount_95d88_9 (Nat.le_of_ble_eq_true rfl) ?_
  refine q_lload_n eJ13_bitCount_95d88_10 rfl ?_
  refine q_ldc2 (v := 3689348814741910323) eJ13_bitCount_95d88_11 nJ13_316 ?_
  refine q_land eJ13_bitCount_95d88_14 ?_
  refine q_lload_n eJ13_bitCount_95d88_15 rfl ?_
  refine q_ic (v := Int32.ofInt 2) eJ13_bitCount_95d88_16 rfl ?_
  refine z_lushr eJ13_bitCount_95d88_17 ?_
  refine q_ldc2 (v := 3689348814741910323) eJ13_bitCount_95d88_18 nJ13_316 ?_
  refine q_land eJ13_bitCount_95d88_21 ?_
  refine q_ladd eJ13_bitCount_95d88_22 ?_
  refine q_lstore_n eJ13_bitCount_95d88_23 (Nat.le_of_ble_eq_true rfl) ?_
  refine q_lload_n eJ13_bitCount_95d88_24 rfl ?_
  refine q_lload_n eJ13_bitCount_95d88_25 rfl ?_
  refine q_ic (v := Int32.ofInt 4) eJ13_bitCount_95d88_26 rfl ?_
  refine z_lushr eJ13_bitCount_95d88_27 ?_
  refine q_ladd eJ13_bitCount_95d88_28 ?_
  refine q_ldc2 (v := 1085102592571150095) eJ13_bitCount_95d88_29 nJ13_318 ?_
  refine q_land eJ13_bitCount_95d88_32 ?_
  refine q_lstore_n eJ13_bitCount_95d88_33 (Nat.le_of_ble_eq_true rfl) ?_
  refine q_lload_n eJ13_bitCount_95d88_34 rfl ?_
  refine q_lload_n eJ13_bitCount_95d88_35 rfl ?_
  refine q_bi (v := Int32.ofInt 8) eJ13_bitCount_95d88_36 rfl ?_
  refine z_lushr eJ13_bitCount_95d88_38 ?_
  refine q_ladd eJ13_bitCount_95d88_39 ?_
  refine q_lstore_n eJ13_bitCount_95d88_40 (Nat.le_of_ble_eq_true rfl) ?_
  refine q_lload_n eJ13_bitCount_95d88_41 rfl ?_
  refine q_lload_n eJ13_bitCount_95d88_42 rfl ?_
  refine q_bi (v := Int32.ofInt 16) eJ13_bitCount_95d88_43 rfl ?_
  refine z_lushr eJ13_bitCount_95d88_45 ?_
  refine q_ladd eJ13_bitCount_95d88_46 ?_
  refine q_lstore_n eJ13_bitCount_95d88_47 (Nat.le_of_ble_eq_true rfl) ?_
  refine q_lload_n eJ13_bitCount_95d88_48 rfl ?_
  refine q_lload_n eJ13_bitCount_95d88_49 rfl ?_
  refine q_bi (v := Int32.ofInt 32) eJ13_bitCount_95d88_50 rfl ?_
  refine z_lushr eJ13_bitCount_95d88_52 ?_
  refine q_ladd eJ13_bitCount_95d88_53 ?_
  refine q_lstore_n eJ13_bitCount_95d88_54 (Nat.le_of_ble_eq_true rfl) ?_
  refine q_lload_n eJ13_bitCount_95d88_55 rfl ?_
  refine z_l2i eJ13_bitCount_95d88_56 ?_
  refine q_bi (v := Int32.ofInt 127) eJ13_bitCount_95d88_57 rfl ?_
  refine z_iand eJ13_bitCount_95d88_59 ?_
  exact q_iret eJ13_bitCount_95d88_60 rfl ⟨_, _, rfl, hA, (iand_r _ _), rfl, h⟩
def F_J13_bitCount_95d88 (s : ST) (p : Int64) : Int := (iand (l2i ((((((((p - ((lushr p 1) &&& 6148914691236517205)) &&& 3689348814741910323) + ((lushr (p - ((lushr p 1) &&& 6148914691236517205)) 2) &&& 3689348814741910323)) + (lushr (((p - ((lushr p 1) &&& 6148914691236517205)) &&& 3689348814741910323) + ((lushr (p - ((lushr p 1) &&& 6148914691236517205)) 2) &&& 3689348814741910323)) 4)) &&& 1085102592571150095) + (lushr (((((p - ((lushr p 1) &&& 6148914691236517205)) &&& 3689348814741910323) + ((lushr (p - ((lushr p 1) &&& 6148914691236517205)) 2) &&& 3689348814741910323)) + (lushr (((p - ((lushr p 1) &&& 6148914691236517205)) &&& 3689348814741910323) + ((lushr (p - ((lushr p 1) &&& 6148914691236517205)) 2) &&& 3689348814741910323)) 4)) &&& 1085102592571150095) 8)) + (lushr ((((((p - ((lushr p 1) &&& 6148914691236517205)) &&& 3689348814741910323) + ((lushr (p - ((lushr p 1) &&& 6148914691236517205)) 2) &&& 3689348814741910323)) + (lushr (((p - ((lushr p 1) &&& 6148914691236517205)) &&& 3689348814741910323) + ((lushr (p - ((lushr p 1) &&& 6148914691236517205)) 2) &&& 3689348814741910323)) 4)) &&& 1085102592571150095) + (lushr (((((p - ((lushr p 1) &&& 6148914691236517205)) &&& 3689348814741910323) + ((lushr (p - ((lushr p 1) &&& 6148914691236517205)) 2) &&& 3689348814741910323)) + (lushr (((p - ((lushr p 1) &&& 6148914691236517205)) &&& 3689348814741910323) + ((lushr (p - ((lushr p 1) &&& 6148914691236517205)) 2) &&& 3689348814741910323)) 4)) &&& 1085102592571150095) 8)) 16)) + (lushr (((((((p - ((lushr p 1) &&& 6148914691236517205)) &&& 3689348814741910323) + ((lushr (p - ((lushr p 1) &&& 6148914691236517205)) 2) &&& 3689348814741910323)) + (lushr (((p - ((lushr p 1) &&& 6148914691236517205)) &&& 3689348814741910323) + ((lushr (p - ((lushr p 1) &&& 6148914691236517205)) 2) &&& 3689348814741910323)) 4)) &&& 1085102592571150095) + (lushr (((((p - ((lushr p 1) &&& 6148914691236517205)) &&& 3689348814741910323) + ((lushr (p - ((lushr p 1) &&& 6148914691236517205)) 2) &&& 3689348814741910323)) + (lushr (((p - ((lushr p 1) &&& 6148914691236517205)) &&& 3689348814741910323) + ((lushr (p - ((lushr p 1) &&& 6148914691236517205)) 2) &&& 3689348814741910323)) 4)) &&& 1085102592571150095) 8)) + (lushr ((((((p - ((lushr p 1) &&& 6148914691236517205)) &&& 3689348814741910323) + ((lushr (p - ((lushr p 1) &&& 6148914691236517205)) 2) &&& 3689348814741910323)) + (lushr (((p - ((lushr p 1) &&& 6148914691236517205)) &&& 3689348814741910323) + ((lushr (p - ((lushr p 1) &&& 6148914691236517205)) 2) &&& 3689348814741910323)) 4)) &&& 1085102592571150095) + (lushr (((((p - ((lushr p 1) &&& 6148914691236517205)) &&& 3689348814741910323) + ((lushr (p - ((lushr p 1) &&& 6148914691236517205)) 2) &&& 3689348814741910323)) + (lushr (((p - ((lushr p 1) &&& 6148914691236517205)) &&& 3689348814741910323) + ((lushr (p - ((lushr p 1) &&& 6148914691236517205)) 2) &&& 3689348814741910323)) 4)) &&& 1085102592571150095) 8)) 16)) 32))) 127)
theorem w_J13_bitCount_95d88 {s : ST} {p : Int64} : C_J13_bitCount_95d88 s p (fun s' v => s' = s ∧ v = F_J13_bitCount_95d88 s p) := by
  refine s_J13_bitCount_95d88 (fun hA => ?_)
  exact ⟨rfl, rfl⟩
theorem p_J13_bitCount_95d88 {s : ST} {p : Int64} : RA s → q_met mJ13_bitCount_95d88 (qs layX s) [.long p] (fun σ r => R32 (F_J13_bitCount_95d88 s p) ∧ σ = qs layX s ∧ r = some (.int (Int32.ofInt (F_J13_bitCount_95d88 s p)))) := fun hA => q_met.mono ((w_J13_bitCount_95d88).1 hA) (by
  rintro _ _ ⟨s1, v1, rfl, h1, h2, rfl, rfl, rfl⟩
  exact ⟨h2, rfl, rfl⟩)
theorem eX1_branches_0 : decode cX1_branches 0 = .ok (.iload_n 1, 1) := by decide +kernel
theorem eX1_branches_1 : decode cX1_branches 1 = .ok (.ifCond .lt 9, 3) := by decide +kernel
theorem eX1_branches_4 : decode cX1_branches 4 = .ok (.iload_n 1, 1) := by decide +kernel
theorem eX1_branches_5 : decode cX1_branches 5 = .ok (.bipush 26, 2) := by decide +kernel
theorem eX1_branches_7 : decode cX1_branches 7 = .ok (.if_icmp .lt 5, 3) := by decide +kernel
theorem eX1_branches_10 : decode cX1_branches 10 = .ok (.lconst 0, 1) := by decide +kernel
theorem eX1_branches_11 : decode cX1_branches 11 = .ok (.lreturn, 1) := by decide +kernel
theorem eX1_branches_12 : decode cX1_branches 12 = .ok (.ldc2_w 63, 3) := by decide +kernel
theorem eX1_branches_15 : decode cX1_branches 15 = .ok (.lstore_n 2, 1) := by decide +kernel
theorem eX1_branches_16 : decode cX1_branches 16 = .ok (.lconst 0, 1) := by decide +kernel
theorem eX1_branches_17 : decode cX1_branches 17 = .ok (.lstore 4, 2) := by decide +kernel
theorem eX1_branches_19 : decode cX1_branches 19 = .ok (.aload_n 0, 1) := by decide +kernel
theorem eX1_branches_20 : decode cX1_branches 20 = .ok (.getfield 24, 3) := by decide +kernel
theorem eX1_branches_23 : decode cX1_branches 23 = .ok (.iload_n 1, 1) := by decide +kernel
theorem eX1_branches_24 : decode cX1_branches 24 = .ok (.laload, 1) := by decide +kernel
theorem eX1_branches_25 : decode cX1_branches 25 = .ok (.lstore 6, 2) := by decide +kernel
theorem eX1_branches_27 : decode cX1_branches 27 = .ok (.iconst 0, 1) := by decide +kernel
theorem eX1_branches_28 : decode cX1_branches 28 = .ok (.istore 8, 2) := by decide +kernel
theorem eX1_branches_30 : decode cX1_branches 30 = .ok (.iload 8, 2) := by decide +kernel
theorem eX1_branches_32 : decode cX1_branches 32 = .ok (.aload_n 0, 1) := by decide +kernel
theorem eX1_branches_33 : decode cX1_branches 33 = .ok (.getfield 42, 3) := by decide +kernel
theorem eX1_branches_36 : decode cX1_branches 36 = .ok (.if_icmp .ge 119, 3) := by decide +kernel
theorem eX1_branches_39 : decode cX1_branches 39 = .ok (.iload 8, 2) := by decide +kernel
theorem eX1_branches_41 : decode cX1_branches 41 = .ok (.sipush 512, 3) := by decide +kernel
theorem eX1_branches_44 : decode cX1_branches 44 = .ok (.if_icmp .ge 111, 3) := by decide +kernel
theorem eX1_branches_47 : decode cX1_branches 47 = .ok (.aload_n 0, 1) := by decide +kernel
theorem eX1_branches_48 : decode cX1_branches 48 = .ok (.getfield 11, 3) := by decide +kernel
theorem eX1_branches_51 : decode cX1_branches 51 = .ok (.iload 8, 2) := by decide +kernel
theorem eX1_branches_53 : decode cX1_branches 53 = .ok (.laload, 1) := by decide +kernel
theorem eX1_branches_54 : decode cX1_branches 54 = .ok (.aload_n 0, 1) := by decide +kernel
theorem eX1_branches_55 : decode cX1_branches 55 = .ok (.getfield 18, 3) := by decide +kernel
theorem eX1_branches_58 : decode cX1_branches 58 = .ok (.iload_n 1, 1) := by decide +kernel
theorem eX1_branches_59 : decode cX1_branches 59 = .ok (.laload, 1) := by decide +kernel
theorem eX1_branches_60 : decode cX1_branches 60 = .ok (.land, 1) := by decide +kernel
theorem eX1_branches_61 : decode cX1_branches 61 = .ok (.lconst 0, 1) := by decide +kernel
theorem eX1_branches_62 : decode cX1_branches 62 = .ok (.lcmp, 1) := by decide +kernel
theorem eX1_branches_63 : decode cX1_branches 63 = .ok (.ifCond .eq 6, 3) := by decide +kernel
theorem eX1_branches_66 : decode cX1_branches 66 = .ok (.goto 83, 3) := by decide +kernel
theorem eX1_branches_69 : decode cX1_branches 69 = .ok (.aload_n 0, 1) := by decide +kernel
theorem eX1_branches_70 : decode cX1_branches 70 = .ok (.getfield 11, 3) := by decide +kernel
theorem eX1_branches_73 : decode cX1_branches 73 = .ok (.iload 8, 2) := by decide +kernel
theorem eX1_branches_75 : decode cX1_branches 75 = .ok (.laload, 1) := by decide +kernel
theorem eX1_branches_76 : decode cX1_branches 76 = .ok (.aload_n 0, 1) := by decide +kernel
theorem eX1_branches_77 : decode cX1_branches 77 = .ok (.getfield 21, 3) := by decide +kernel
theorem eX1_branches_80 : decode cX1_branches 80 = .ok (.iload_n 1, 1) := by decide +kernel
theorem eX1_branches_81 : decode cX1_branches 81 = .ok (.laload, 1) := by decide +kernel
theorem eX1_branches_82 : decode cX1_branches 82 = .ok (.ldc2_w 63, 3) := by decide +kernel
theorem eX1_branches_85 : decode cX1_branches 85 = .ok (.lxor, 1) := by decide +kernel
theorem eX1_branches_86 : decode cX1_branches 86 = .ok (.land, 1) := by decide +kernel
theorem eX1_branches_87 : decode cX1_branches 87 = .ok (.lstore 9, 2) := by decide +kernel
theorem eX1_branches_89 : decode cX1_branches 89 = .ok (.lload 9, 2) := by decide +kernel
theorem eX1_branches_91 : decode cX1_branches 91 = .ok (.lconst 0, 1) := by decide +kernel
theorem eX1_branches_92 : decode cX1_branches 92 = .ok (.lcmp, 1) := by decide +kernel
theorem eX1_branches_93 : decode cX1_branches 93 = .ok (.ifCond .ne 5, 3) := by decide +kernel
theorem eX1_branches_96 : decode cX1_branches 96 = .ok (.lconst 0, 1) := by decide +kernel
theorem eX1_branches_97 : decode cX1_branches 97 = .ok (.lreturn, 1) := by decide +kernel
theorem eX1_branches_98 : decode cX1_branches 98 = .ok (.lload 9, 2) := by decide +kernel
theorem eX1_branches_100 : decode cX1_branches 100 = .ok (.lload 4, 2) := by decide +kernel
theorem eX1_branches_102 : decode cX1_branches 102 = .ok (.land, 1) := by decide +kernel
theorem eX1_branches_103 : decode cX1_branches 103 = .ok (.lconst 0, 1) := by decide +kernel
theorem eX1_branches_104 : decode cX1_branches 104 = .ok (.lcmp, 1) := by decide +kernel
theorem eX1_branches_105 : decode cX1_branches 105 = .ok (.ifCond .ne 21, 3) := by decide +kernel
theorem eX1_branches_108 : decode cX1_branches 108 = .ok (.lload 4, 2) := by decide +kernel
theorem eX1_branches_110 : decode cX1_branches 110 = .ok (.lload 9, 2) := by decide +kernel
theorem eX1_branches_112 : decode cX1_branches 112 = .ok (.lor, 1) := by decide +kernel
theorem eX1_branches_113 : decode cX1_branches 113 = .ok (.lstore 4, 2) := by decide +kernel
theorem eX1_branches_115 : decode cX1_branches 115 = .ok (.lload 6, 2) := by decide +kernel
theorem eX1_branches_117 : decode cX1_branches 117 = .ok (.aload_n 0, 1) := by decide +kernel
theorem eX1_branches_118 : decode cX1_branches 118 = .ok (.lload 9, 2) := by decide +kernel
theorem eX1_branches_120 : decode cX1_branches 120 = .ok (.invokevirtual 91, 3) := by decide +kernel
theorem eX1_branches_123 : decode cX1_branches 123 = .ok (.ladd, 1) := by decide +kernel
theorem eX1_branches_124 : decode cX1_branches 124 = .ok (.lstore 6, 2) := by decide +kernel
theorem eX1_branches_126 : decode cX1_branches 126 = .ok (.lload_n 2, 1) := by decide +kernel
theorem eX1_branches_127 : decode cX1_branches 127 = .ok (.ldc2_w 63, 3) := by decide +kernel
theorem eX1_branches_130 : decode cX1_branches 130 = .ok (.lcmp, 1) := by decide +kernel
theorem eX1_branches_131 : decode cX1_branches 131 = .ok (.ifCond .eq 15, 3) := by decide +kernel
theorem eX1_branches_134 : decode cX1_branches 134 = .ok (.lload 9, 2) := by decide +kernel
theorem eX1_branches_136 : decode cX1_branches 136 = .ok (.invokestatic 94, 3) := by decide +kernel
theorem eX1_branches_139 : decode cX1_branches 139 = .ok (.lload_n 2, 1) := by decide +kernel
theorem eX1_branches_140 : decode cX1_branches 140 = .ok (.invokestatic 94, 3) := by decide +kernel
theorem eX1_branches_143 : decode cX1_branches 143 = .ok (.if_icmp .ge 6, 3) := by decide +kernel
theorem eX1_branches_146 : decode cX1_branches 146 = .ok (.lload 9, 2) := by decide +kernel
theorem eX1_branches_148 : decode cX1_branches 148 = .ok (.lstore_n 2, 1) := by decide +kernel
theorem eX1_branches_149 : decode cX1_branches 149 = .ok (.iinc 8 1, 3) := by decide +kernel
theorem eX1_branches_152 : decode cX1_branches 152 = .ok (.goto (-122), 3) := by decide +kernel
theorem eX1_branches_155 : decode cX1_branches 155 = .ok (.lload 6, 2) := by decide +kernel
theorem eX1_branches_157 : decode cX1_branches 157 = .ok (.aload_n 0, 1) := by decide +kernel
theorem eX1_branches_158 : decode cX1_branches 158 = .ok (.getfield 84, 3) := by decide +kernel
theorem eX1_branches_161 : decode cX1_branches 161 = .ok (.lcmp, 1) := by decide +kernel
theorem eX1_branches_162 : decode cX1_branches 162 = .ok (.ifCond .lt 7, 3) := by decide +kernel
theorem eX1_branches_165 : decode cX1_branches 165 = .ok (.lconst 0, 1) := by decide +kernel
theorem eX1_branches_166 : decode cX1_branches 166 = .ok (.goto 4, 3) := by decide +kernel
theorem eX1_branches_169 : decode cX1_branches 169 = .ok (.lload_n 2, 1) := by decide +kernel
theorem eX1_branches_170 : decode cX1_branches 170 = .ok (.lreturn, 1) := by decide +kernel
def C_X1_branches (s : ST) (p : Int) (Q : ST → Int64 → Prop) : Prop := bx <| RA s → R32 p → q_met mX1_branches (qs layX s) [.ref 69, .int (Int32.ofInt p)] (PL layX Q)
theorem C_X1_branches.mono {s : ST} {p : Int} {Q Q' : ST → Int64 → Prop} (h : C_X1_branches s p Q) (hq : ∀ s v, Q s v → Q' s v) : C_X1_branches s p Q' := ⟨fun hA hrp => q_met.mono (h.1 hA hrp) (fun _ _ => PL.mono hq), trivial⟩
def K_X1_branches_155 (s : ST) (a2 : Int64) (a6 : Int64) (Q : ST → Int64 → Prop) : Prop := bx <| RA s → q_K mX1_branches (qs layX s) 0 0 155 [(0, .ref 69), (2, .long a2), (6, .long a6)] [] (q_fin mX1_branches (PL layX Q))
def K_X1_branches_126 (s : ST) (a1 : Int) (a2 : Int64) (a4 : Int64) (a6 : Int64) (a8 : Int) (a9 : Int64) (Q : ST → Int64 → Prop) : Prop := bx <| RA s → R32 a1 → R32 a8 → q_K mX1_branches (qs layX s) 0 0 126 [(0, .ref 69), (1, .int (Int32.ofInt a1)), (2, .long a2), (4, .long a4), (6, .long a6), (8, .int (Int32.ofInt a8)), (9, .long a9)] [] (q_fin mX1_branches (PL layX Q))
def K_X1_branches_30 (s : ST) (a1 : Int) (a2 : Int64) (a4 : Int64) (a6 : Int64) (a8 : Int) (Q : ST → Int64 → Prop) : Prop := bx <| RA s → R32 a1 → R32 a8 → q_K mX1_branches (qs layX s) 0 0 30 [(0, .ref 69), (1, .int (Int32.ofInt a1)), (2, .long a2), (4, .long a4), (6, .long a6), (8, .int (Int32.ofInt a8))] [] (q_fin mX1_branches (PL layX Q))
set_option maxRecDepth 20000 in
theorem s_X1_branches_155 {s : ST} {a2 : Int64} {a6 : Int64} {Q : ST → Int64 → Prop} (h : RA s → ((a6 < (s.2 69 2) → Q s a2) ∧ (¬ a6 < (s.2 69 2) → Q s 0))) : K_X1_branches_155 s a2 a6 Q := by
  refine ⟨?_, trivial⟩
  intro hA
  have h := h hA
  refine q_lload eX1_branches_155 rfl ?_
  refine q_aload_n eX1_branches_157 rfl ?_
  refine q_getf (c := 1) (n := 0) (k := 2) (v := .long (s.2 69 2)) eX1_branches_158 rfl (by decide) (by decide) fX1_84 rfl ?_
  refine q_lcmp eX1_branches_161 ?_
  refine z_lc_lt (tgt := 169) eX1_branches_162 (by decide) (fun c162 => ?_) (fun c162 => ?_)
  · have h := h.1 c162
    refine q_lload_n eX1_branches_169 rfl ?_
    exact q_lret eX1_branches_170 rfl ⟨_, _, rfl, hA, rfl, h⟩
  · have h := h.2 c162
    refine q_lc (v := 0) eX1_branches_165 rfl ?_
    refine q_goto (tgt := 170) eX1_branches_166 (by decide) ?_
    exact q_lret eX1_branches_170 rfl ⟨_, _, rfl, hA, rfl, h⟩
set_option maxRecDepth 20000 in
theorem s_X1_branches_126 {s : ST} {a1 : Int} {a2 : Int64} {a4 : Int64} {a6 : Int64} {a8 : Int} {a9 : Int64} {Q : ST → Int64 → Prop} (h : RA s → R32 a1 → R32 a8 → ((a2 = (-1) → (R32 (a8 + 1) ∧ K_X1_branches_30 s a1 a9 a4 a6 (a8 + 1) Q)) ∧ (¬ a2 = (-1) → (((iand (l2i ((((((((a2 - ((lushr a2 1) &&& 6148914691236517205)) &&& 3689348814741910323) + ((lushr (a2 - ((lushr a2 1) &&& 6148914691236517205)) 2) &&& 3689348814741910323)) + (lushr (((a2 - ((lushr a2 1) &&& 6148914691236517205)) &&& 3689348814741910323) + ((lushr (a2 - ((lushr a2 1) &&& 6148914691236517205)) 2) &&& 3689348814741910323)) 4)) &&& 1085102592571150095) + (lushr (((((a2 - ((lushr a2 1) &&& 6148914691236517205)) &&& 3689348814741910323) + ((lushr (a2 - ((lushr a2 1) &&& 6148914691236517205)) 2) &&& 3689348814741910323)) + (lushr (((a2 - ((lushr a2 1) &&& 6148914691236517205)) &&& 3689348814741910323) + ((lushr (a2 - ((lushr a2 1) &&& 6148914691236517205)) 2) &&& 3689348814741910323)) 4)) &&& 1085102592571150095) 8)) + (lushr ((((((a2 - ((lushr a2 1) &&& 6148914691236517205)) &&& 3689348814741910323) + ((lushr (a2 - ((lushr a2 1) &&& 6148914691236517205)) 2) &&& 3689348814741910323)) + (lushr (((a2 - ((lushr a2 1) &&& 6148914691236517205)) &&& 3689348814741910323) + ((lushr (a2 - ((lushr a2 1) &&& 6148914691236517205)) 2) &&& 3689348814741910323)) 4)) &&& 1085102592571150095) + (lushr (((((a2 - ((lushr a2 1) &&& 6148914691236517205)) &&& 3689348814741910323) + ((lushr (a2 - ((lushr a2 1) &&& 6148914691236517205)) 2) &&& 3689348814741910323)) + (lushr (((a2 - ((lushr a2 1) &&& 6148914691236517205)) &&& 3689348814741910323) + ((lushr (a2 - ((lushr a2 1) &&& 6148914691236517205)) 2) &&& 3689348814741910323)) 4)) &&& 1085102592571150095) 8)) 16)) + (lushr (((((((a2 - ((lushr a2 1) &&& 6148914691236517205)) &&& 3689348814741910323) + ((lushr (a2 - ((lushr a2 1) &&& 6148914691236517205)) 2) &&& 3689348814741910323)) + (lushr (((a2 - ((lushr a2 1) &&& 6148914691236517205)) &&& 3689348814741910323) + ((lushr (a2 - ((lushr a2 1) &&& 6148914691236517205)) 2) &&& 3689348814741910323)) 4)) &&& 1085102592571150095) + (lushr (((((a2 - ((lushr a2 1) &&& 6148914691236517205)) &&& 3689348814741910323) + ((lushr (a2 - ((lushr a2 1) &&& 6148914691236517205)) 2) &&& 3689348814741910323)) + (lushr (((a2 - ((lushr a2 1) &&& 6148914691236517205)) &&& 3689348814741910323) + ((lushr (a2 - ((lushr a2 1) &&& 6148914691236517205)) 2) &&& 3689348814741910323)) 4)) &&& 1085102592571150095) 8)) + (lushr ((((((a2 - ((lushr a2 1) &&& 6148914691236517205)) &&& 3689348814741910323) + ((lushr (a2 - ((lushr a2 1) &&& 6148914691236517205)) 2) &&& 3689348814741910323)) + (lushr (((a2 - ((lushr a2 1) &&& 6148914691236517205)) &&& 3689348814741910323) + ((lushr (a2 - ((lushr a2 1) &&& 6148914691236517205)) 2) &&& 3689348814741910323)) 4)) &&& 1085102592571150095) + (lushr (((((a2 - ((lushr a2 1) &&& 6148914691236517205)) &&& 3689348814741910323) + ((lushr (a2 - ((lushr a2 1) &&& 6148914691236517205)) 2) &&& 3689348814741910323)) + (lushr (((a2 - ((lushr a2 1) &&& 6148914691236517205)) &&& 3689348814741910323) + ((lushr (a2 - ((lushr a2 1) &&& 6148914691236517205)) 2) &&& 3689348814741910323)) 4)) &&& 1085102592571150095) 8)) 16)) 32))) 127) ≤ (iand (l2i ((((((((a9 - ((lushr a9 1) &&& 6148914691236517205)) &&& 3689348814741910323) + ((lushr (a9 - ((lushr a9 1) &&& 6148914691236517205)) 2) &&& 3689348814741910323)) + (lushr (((a9 - ((lushr a9 1) &&& 6148914691236517205)) &&& 3689348814741910323) + ((lushr (a9 - ((lushr a9 1) &&& 6148914691236517205)) 2) &&& 3689348814741910323)) 4)) &&& 1085102592571150095) + (lushr (((((a9 - ((lushr a9 1) &&& 6148914691236517205)) &&& 3689348814741910323) + ((lushr (a9 - ((lushr a9 1) &&& 6148914691236517205)) 2) &&& 3689348814741910323)) + (lushr (((a9 - ((lushr a9 1) &&& 6148914691236517205)) &&& 3689348814741910323) + ((lushr (a9 - ((lushr a9 1) &&& 6148914691236517205)) 2) &&& 3689348814741910323)) 4)) &&& 1085102592571150095) 8)) + (lushr ((((((a9 - ((lushr a9 1) &&& 6148914691236517205)) &&& 3689348814741910323) + ((lushr (a9 - ((lushr a9 1) &&& 6148914691236517205)) 2) &&& 3689348814741910323)) + (lushr (((a9 - ((lushr a9 1) &&& 6148914691236517205)) &&& 3689348814741910323) + ((lushr (a9 - ((lushr a9 1) &&& 6148914691236517205)) 2) &&& 3689348814741910323)) 4)) &&& 1085102592571150095) + (lushr (((((a9 - ((lushr a9 1) &&& 6148914691236517205)) &&& 3689348814741910323) + ((lushr (a9 - ((lushr a9 1) &&& 6148914691236517205)) 2) &&& 3689348814741910323)) + (lushr (((a9 - ((lushr a9 1) &&& 6148914691236517205)) &&& 3689348814741910323) + ((lushr (a9 - ((lushr a9 1) &&& 6148914691236517205)) 2) &&& 3689348814741910323)) 4)) &&& 1085102592571150095) 8)) 16)) + (lushr (((((((a9 - ((lushr a9 1) &&& 6148914691236517205)) &&& 3689348814741910323) + ((lushr (a9 - ((lushr a9 1) &&& 6148914691236517205)) 2) &&& 3689348814741910323)) + (lushr (((a9 - ((lushr a9 1) &&& 6148914691236517205)) &&& 3689348814741910323) + ((lushr (a9 - ((lushr a9 1) &&& 6148914691236517205)) 2) &&& 3689348814741910323)) 4)) &&& 1085102592571150095) + (lushr (((((a9 - ((lushr a9 1) &&& 6148914691236517205)) &&& 3689348814741910323) + ((lushr (a9 - ((lushr a9 1) &&& 6148914691236517205)) 2) &&& 3689348814741910323)) + (lushr (((a9 - ((lushr a9 1) &&& 6148914691236517205)) &&& 3689348814741910323) + ((lushr (a9 - ((lushr a9 1) &&& 6148914691236517205)) 2) &&& 3689348814741910323)) 4)) &&& 1085102592571150095) 8)) + (lushr ((((((a9 - ((lushr a9 1) &&& 6148914691236517205)) &&& 3689348814741910323) + ((lushr (a9 - ((lushr a9 1) &&& 6148914691236517205)) 2) &&& 3689348814741910323)) + (lushr (((a9 - ((lushr a9 1) &&& 6148914691236517205)) &&& 3689348814741910323) + ((lushr (a9 - ((lushr a9 1) &&& 6148914691236517205)) 2) &&& 3689348814741910323)) 4)) &&& 1085102592571150095) + (lushr (((((a9 - ((lushr a9 1) &&& 6148914691236517205)) &&& 3689348814741910323) + ((lushr (a9 - ((lushr a9 1) &&& 6148914691236517205)) 2) &&& 3689348814741910323)) + (lushr (((a9 - ((lushr a9 1) &&& 6148914691236517205)) &&& 3689348814741910323) + ((lushr (a9 - ((lushr a9 1) &&& 6148914691236517205)) 2) &&& 3689348814741910323)) 4)) &&& 1085102592571150095) 8)) 16)) 32))) 127) → (R32 (a8 + 1) ∧ K_X1_branches_30 s a1 a2 a4 a6 (a8 + 1) Q)) ∧ (¬ (iand (l2i ((((((((a2 - ((lushr a2 1) &&& 6148914691236517205)) &&& 3689348814741910323) + ((lushr (a2 - ((lushr a2 1) &&& 6148914691236517205)) 2) &&& 3689348814741910323)) + (lushr (((a2 - ((lushr a2 1) &&& 6148914691236517205)) &&& 3689348814741910323) + ((lushr (a2 - ((lushr a2 1) &&& 6148914691236517205)) 2) &&& 3689348814741910323)) 4)) &&& 1085102592571150095) + (lushr (((((a2 - ((lushr a2 1) &&& 6148914691236517205)) &&& 3689348814741910323) + ((lushr (a2 - ((lushr a2 1) &&& 6148914691236517205)) 2) &&& 3689348814741910323)) + (lushr (((a2 - ((lushr a2 1) &&& 6148914691236517205)) &&& 3689348814741910323) + ((lushr (a2 - ((lushr a2 1) &&& 6148914691236517205)) 2) &&& 3689348814741910323)) 4)) &&& 1085102592571150095) 8)) + (lushr ((((((a2 - ((lushr a2 1) &&& 6148914691236517205)) &&& 3689348814741910323) + ((lushr (a2 - ((lushr a2 1) &&& 6148914691236517205)) 2) &&& 3689348814741910323)) + (lushr (((a2 - ((lushr a2 1) &&& 6148914691236517205)) &&& 3689348814741910323) + ((lushr (a2 - ((lushr a2 1) &&& 6148914691236517205)) 2) &&& 3689348814741910323)) 4)) &&& 1085102592571150095) + (lushr (((((a2 - ((lushr a2 1) &&& 6148914691236517205)) &&& 3689348814741910323) + ((lushr (a2 - ((lushr a2 1) &&& 6148914691236517205)) 2) &&& 3689348814741910323)) + (lushr (((a2 - ((lushr a2 1) &&& 6148914691236517205)) &&& 3689348814741910323) + ((lushr (a2 - ((lushr a2 1) &&& 6148914691236517205)) 2) &&& 3689348814741910323)) 4)) &&& 1085102592571150095) 8)) 16)) + (lushr (((((((a2 - ((lushr a2 1) &&& 6148914691236517205)) &&& 3689348814741910323) + ((lushr (a2 - ((lushr a2 1) &&& 6148914691236517205)) 2) &&& 3689348814741910323)) + (lushr (((a2 - ((lushr a2 1) &&& 6148914691236517205)) &&& 3689348814741910323) + ((lushr (a2 - ((lushr a2 1) &&& 6148914691236517205)) 2) &&& 3689348814741910323)) 4)) &&& 1085102592571150095) + (lushr (((((a2 - ((lushr a2 1) &&& 6148914691236517205)) &&& 3689348814741910323) + ((lushr (a2 - ((lushr a2 1) &&& 6148914691236517205)) 2) &&& 3689348814741910323)) + (lushr (((a2 - ((lushr a2 1) &&& 6148914691236517205)) &&& 3689348814741910323) + ((lushr (a2 - ((lushr a2 1) &&& 6148914691236517205)) 2) &&& 3689348814741910323)) 4)) &&& 1085102592571150095) 8)) + (lushr ((((((a2 - ((lushr a2 1) &&& 6148914691236517205)) &&& 3689348814741910323) + ((lushr (a2 - ((lushr a2 1) &&& 6148914691236517205)) 2) &&& 3689348814741910323)) + (lushr (((a2 - ((lushr a2 1) &&& 6148914691236517205)) &&& 3689348814741910323) + ((lushr (a2 - ((lushr a2 1) &&& 6148914691236517205)) 2) &&& 3689348814741910323)) 4)) &&& 1085102592571150095) + (lushr (((((a2 - ((lushr a2 1) &&& 6148914691236517205)) &&& 3689348814741910323) + ((lushr (a2 - ((lushr a2 1) &&& 6148914691236517205)) 2) &&& 3689348814741910323)) + (lushr (((a2 - ((lushr a2 1) &&& 6148914691236517205)) &&& 3689348814741910323) + ((lushr (a2 - ((lushr a2 1) &&& 6148914691236517205)) 2) &&& 3689348814741910323)) 4)) &&& 1085102592571150095) 8)) 16)) 32))) 127) ≤ (iand (l2i ((((((((a9 - ((lushr a9 1) &&& 6148914691236517205)) &&& 3689348814741910323) + ((lushr (a9 - ((lushr a9 1) &&& 6148914691236517205)) 2) &&& 3689348814741910323)) + (lushr (((a9 - ((lushr a9 1) &&& 6148914691236517205)) &&& 3689348814741910323) + ((lushr (a9 - ((lushr a9 1) &&& 6148914691236517205)) 2) &&& 3689348814741910323)) 4)) &&& 1085102592571150095) + (lushr (((((a9 - ((lushr a9 1) &&& 6148914691236517205)) &&& 3689348814741910323) + ((lushr (a9 - ((lushr a9 1) &&& 6148914691236517205)) 2) &&& 3689348814741910323)) + (lushr (((a9 - ((lushr a9 1) &&& 6148914691236517205)) &&& 3689348814741910323) + ((lushr (a9 - ((lushr a9 1) &&& 6148914691236517205)) 2) &&& 3689348814741910323)) 4)) &&& 1085102592571150095) 8)) + (lushr ((((((a9 - ((lushr a9 1) &&& 6148914691236517205)) &&& 3689348814741910323) + ((lushr (a9 - ((lushr a9 1) &&& 6148914691236517205)) 2) &&& 3689348814741910323)) + (lushr (((a9 - ((lushr a9 1) &&& 6148914691236517205)) &&& 3689348814741910323) + ((lushr (a9 - ((lushr a9 1) &&& 6148914691236517205)) 2) &&& 3689348814741910323)) 4)) &&& 1085102592571150095) + (lushr (((((a9 - ((lushr a9 1) &&& 6148914691236517205)) &&& 3689348814741910323) + ((lushr (a9 - ((lushr a9 1) &&& 6148914691236517205)) 2) &&& 3689348814741910323)) + (lushr (((a9 - ((lushr a9 1) &&& 6148914691236517205)) &&& 3689348814741910323) + ((lushr (a9 - ((lushr a9 1) &&& 6148914691236517205)) 2) &&& 3689348814741910323)) 4)) &&& 1085102592571150095) 8)) 16)) + (lushr (((((((a9 - ((lushr a9 1) &&& 6148914691236517205)) &&& 3689348814741910323) + ((lushr (a9 - ((lushr a9 1) &&& 6148914691236517205)) 2) &&& 3689348814741910323)) + (lushr (((a9 - ((lushr a9 1) &&& 6148914691236517205)) &&& 3689348814741910323) + ((lushr (a9 - ((lushr a9 1) &&& 6148914691236517205)) 2) &&& 3689348814741910323)) 4)) &&& 1085102592571150095) + (lushr (((((a9 - ((lushr a9 1) &&& 6148914691236517205)) &&& 3689348814741910323) + ((lushr (a9 - ((lushr a9 1) &&& 6148914691236517205)) 2) &&& 3689348814741910323)) + (lushr (((a9 - ((lushr a9 1) &&& 6148914691236517205)) &&& 3689348814741910323) + ((lushr (a9 - ((lushr a9 1) &&& 6148914691236517205)) 2) &&& 3689348814741910323)) 4)) &&& 1085102592571150095) 8)) + (lushr ((((((a9 - ((lushr a9 1) &&& 6148914691236517205)) &&& 3689348814741910323) + ((lushr (a9 - ((lushr a9 1) &&& 6148914691236517205)) 2) &&& 3689348814741910323)) + (lushr (((a9 - ((lushr a9 1) &&& 6148914691236517205)) &&& 3689348814741910323) + ((lushr (a9 - ((lushr a9 1) &&& 6148914691236517205)) 2) &&& 3689348814741910323)) 4)) &&& 1085102592571150095) + (lushr (((((a9 - ((lushr a9 1) &&& 6148914691236517205)) &&& 3689348814741910323) + ((lushr (a9 - ((lushr a9 1) &&& 6148914691236517205)) 2) &&& 3689348814741910323)) + (lushr (((a9 - ((lushr a9 1) &&& 6148914691236517205)) &&& 3689348814741910323) + ((lushr (a9 - ((lushr a9 1) &&& 6148914691236517205)) 2) &&& 3689348814741910323)) 4)) &&& 1085102592571150095) 8)) 16)) 32))) 127) → (R32 (a8 + 1) ∧ K_X1_branches_30 s a1 a9 a4 a6 (a8 + 1) Q)))))) : K_X1_branches_126 s a1 a2 a4 a6 a8 a9 Q := by
  refine ⟨?_, trivial⟩
  intro hA hra1 hra8
  have h := h hA hra1 hra8
  refine q_lload_n eX1_branches_126 rfl ?_
  refine q_ldc2 (v := (-1)) eX1_branches_127 nX1_63 ?_
  refine q_lcmp eX1_branches_130 ?_
  refine z_lc_eq (tgt := 146) eX1_branches_131 (by decide) (fun c131 => ?_) (fun c131 => ?_)
  · have h := h.1 c131
    refine q_lload eX1_branches_146 rfl ?_
    refine q_lstore_n eX1_branches_148 (Nat.le_of_ble_eq_true rfl) ?_
    have r1 := h.1
    have h := h.2
    refine z_inc (m := 1) eX1_branches_149 rfl (Nat.le_of_ble_eq_true rfl) rfl ?_
    refine q_goto (tgt := 30) eX1_branches_152 (by decide) ?_
    exact q_subL rfl (h.1 hA hra1 r1)
  · have h := h.2 c131
    refine q_lload eX1_branches_134 rfl ?_
    refine q_S1 eX1_branches_136 DJ13_bitCount_95d88 lX1_94 rfl rfl rfl (p_J13_bitCount_95d88 hA) ?_
    rintro _ _ ⟨r2, rfl, rfl⟩
    refine q_lload_n eX1_branches_139 rfl ?_
    refine q_S1 eX1_branches_140 DJ13_bitCount_95d88 lX1_94 rfl rfl rfl (p_J13_bitCount_95d88 hA) ?_
    rintro _ _ ⟨r3, rfl, rfl⟩
    refine q_cz_ge (tgt := 149) (a := (iand (l2i ((((((((a9 - ((lushr a9 1) &&& 6148914691236517205)) &&& 3689348814741910323) + ((lushr (a9 - ((lushr a9 1) &&& 6148914691236517205)) 2) &&& 3689348814741910323)) + (lushr (((a9 - ((lushr a9 1) &&& 6148914691236517205)) &&& 3689348814741910323) + ((lushr (a9 - ((lushr a9 1) &&& 6148914691236517205)) 2) &&& 3689348814741910323)) 4)) &&& 1085102592571150095) + (lushr (((((a9 - ((lushr a9 1) &&& 6148914691236517205)) &&& 3689348814741910323) + ((lushr (a9 - ((lushr a9 1) &&& 6148914691236517205)) 2) &&& 3689348814741910323)) + (lushr (((a9 - ((lushr a9 1) &&& 6148914691236517205)) &&& 3689348814741910323) + ((lushr (a9 - ((lushr a9 1) &&& 6148914691236517205)) 2) &&& 3689348814741910323)) 4)) &&& 1085102592571150095) 8)) + (lushr ((((((a9 - ((lushr a9 1) &&& 6148914691236517205)) &&& 3689348814741910323) + ((lushr (a9 - ((lushr a9 1) &&& 6148914691236517205)) 2) &&& 3689348814741910323)) + (lushr (((a9 - ((lushr a9 1) &&& 6148914691236517205)) &&& 3689348814741910323) + ((lushr (a9 - ((lushr a9 1) &&& 6148914691236517205)) 2) &&& 3689348814741910323)) 4)) &&& 1085102592571150095) + (lushr (((((a9 - ((lushr a9 1) &&& 6148914691236517205)) &&& 3689348814741910323) + ((lushr (a9 - ((lushr a9 1) &&& 6148914691236517205)) 2) &&& 3689348814741910323)) + (lushr (((a9 - ((lushr a9 1) &&& 6148914691236517205)) &&& 3689348814741910323) + ((lushr (a9 - ((lushr a9 1) &&& 6148914691236517205)) 2) &&& 3689348814741910323)) 4)) &&& 1085102592571150095) 8)) 16)) + (lushr (((((((a9 - ((lushr a9 1) &&& 6148914691236517205)) &&& 3689348814741910323) + ((lushr (a9 - ((lushr a9 1) &&& 6148914691236517205)) 2) &&& 3689348814741910323)) + (lushr (((a9 - ((lushr a9 1) &&& 6148914691236517205)) &&& 3689348814741910323) + ((lushr (a9 - ((lushr a9 1) &&& 6148914691236517205)) 2) &&& 3689348814741910323)) 4)) &&& 1085102592571150095) + (lushr (((((a9 - ((lushr a9 1) &&& 6148914691236517205)) &&& 3689348814741910323) + ((lushr (a9 - ((lushr a9 1) &&& 6148914691236517205)) 2) &&& 3689348814741910323)) + (lushr (((a9 - ((lushr a9 1) &&& 6148914691236517205)) &&& 3689348814741910323) + ((lushr (a9 - ((lushr a9 1) &&& 6148914691236517205)) 2) &&& 3689348814741910323)) 4)) &&& 1085102592571150095) 8)) + (lushr ((((((a9 - ((lushr a9 1) &&& 6148914691236517205)) &&& 3689348814741910323) + ((lushr (a9 - ((lushr a9 1) &&& 6148914691236517205)) 2) &&& 3689348814741910323)) + (lushr (((a9 - ((lushr a9 1) &&& 6148914691236517205)) &&& 3689348814741910323) + ((lushr (a9 - ((lushr a9 1) &&& 6148914691236517205)) 2) &&& 3689348814741910323)) 4)) &&& 1085102592571150095) + (lushr (((((a9 - ((lushr a9 1) &&& 6148914691236517205)) &&& 3689348814741910323) + ((lushr (a9 - ((lushr a9 1) &&& 6148914691236517205)) 2) &&& 3689348814741910323)) + (lushr (((a9 - ((lushr a9 1) &&& 6148914691236517205)) &&& 3689348814741910323) + ((lushr (a9 - ((lushr a9 1) &&& 6148914691236517205)) 2) &&& 3689348814741910323)) 4)) &&& 1085102592571150095) 8)) 16)) 32))) 127)) (b := (iand (l2i ((((((((a2 - ((lushr a2 1) &&& 6148914691236517205)) &&& 3689348814741910323) + ((lushr (a2 - ((lushr a2 1) &&& 6148914691236517205)) 2) &&& 3689348814741910323)) + (lushr (((a2 - ((lushr a2 1) &&& 6148914691236517205)) &&& 3689348814741910323) + ((lushr (a2 - ((lushr a2 1) &&& 6148914691236517205)) 2) &&& 3689348814741910323)) 4)) &&& 1085102592571150095) + (lushr (((((a2 - ((lushr a2 1) &&& 6148914691236517205)) &&& 3689348814741910323) + ((lushr (a2 - ((lushr a2 1) &&& 6148914691236517205)) 2) &&& 3689348814741910323)) + (lushr (((a2 - ((lushr a2 1) &&& 6148914691236517205)) &&& 3689348814741910323) + ((lushr (a2 - ((lushr a2 1) &&& 6148914691236517205)) 2) &&& 3689348814741910323)) 4)) &&& 1085102592571150095) 8)) + (lushr ((((((a2 - ((lushr a2 1) &&& 6148914691236517205)) &&& 3689348814741910323) + ((lushr (a2 - ((lushr a2 1) &&& 6148914691236517205)) 2) &&& 3689348814741910323)) + (lushr (((a2 - ((lushr a2 1) &&& 6148914691236517205)) &&& 3689348814741910323) + ((lushr (a2 - ((lushr a2 1) &&& 6148914691236517205)) 2) &&& 3689348814741910323)) 4)) &&& 1085102592571150095) + (lushr (((((a2 - ((lushr a2 1) &&& 6148914691236517205)) &&& 3689348814741910323) + ((lushr (a2 - ((lushr a2 1) &&& 6148914691236517205)) 2) &&& 3689348814741910323)) + (lushr (((a2 - ((lushr a2 1) &&& 6148914691236517205)) &&& 3689348814741910323) + ((lushr (a2 - ((lushr a2 1) &&& 6148914691236517205)) 2) &&& 3689348814741910323)) 4)) &&& 1085102592571150095) 8)) 16)) + (lushr (((((((a2 - ((lushr a2 1) &&& 6148914691236517205)) &&& 3689348814741910323) + ((lushr (a2 - ((lushr a2 1) &&& 6148914691236517205)) 2) &&& 3689348814741910323)) + (lushr (((a2 - ((lushr a2 1) &&& 6148914691236517205)) &&& 3689348814741910323) + ((lushr (a2 - ((lushr a2 1) &&& 6148914691236517205)) 2) &&& 3689348814741910323)) 4)) &&& 1085102592571150095) + (lushr (((((a2 - ((lushr a2 1) &&& 6148914691236517205)) &&& 3689348814741910323) + ((lushr (a2 - ((lushr a2 1) &&& 6148914691236517205)) 2) &&& 3689348814741910323)) + (lushr (((a2 - ((lushr a2 1) &&& 6148914691236517205)) &&& 3689348814741910323) + ((lushr (a2 - ((lushr a2 1) &&& 6148914691236517205)) 2) &&& 3689348814741910323)) 4)) &&& 1085102592571150095) 8)) + (lushr ((((((a2 - ((lushr a2 1) &&& 6148914691236517205)) &&& 3689348814741910323) + ((lushr (a2 - ((lushr a2 1) &&& 6148914691236517205)) 2) &&& 3689348814741910323)) + (lushr (((a2 - ((lushr a2 1) &&& 6148914691236517205)) &&& 3689348814741910323) + ((lushr (a2 - ((lushr a2 1) &&& 6148914691236517205)) 2) &&& 3689348814741910323)) 4)) &&& 1085102592571150095) + (lushr (((((a2 - ((lushr a2 1) &&& 6148914691236517205)) &&& 3689348814741910323) + ((lushr (a2 - ((lushr a2 1) &&& 6148914691236517205)) 2) &&& 3689348814741910323)) + (lushr (((a2 - ((lushr a2 1) &&& 6148914691236517205)) &&& 3689348814741910323) + ((lushr (a2 - ((lushr a2 1) &&& 6148914691236517205)) 2) &&& 3689348814741910323)) 4)) &&& 1085102592571150095) 8)) 16)) 32))) 127)) eX1_branches_143 (by decide) (ofz r2) (ofz r3) (fun c143 => ?_) (fun c143 => ?_)
    · have h := h.1 c143
      have r4 := h.1
      have h := h.2
      refine z_inc (m := 1) eX1_branches_149 rfl (Nat.le_of_ble_eq_true rfl) rfl ?_
      refine q_goto (tgt := 30) eX1_branches_152 (by decide) ?_
      exact q_subL rfl (h.1 hA hra1 r4)
    · have h := h.2 c143
      refine q_lload eX1_branches_146 rfl ?_
      refine q_lstore_n eX1_branches_148 (Nat.le_of_ble_eq_true rfl) ?_
      have r5 := h.1
      have h := h.2
      refine z_inc (m := 1) eX1_branches_149 rfl (Nat.le_of_ble_eq_true rfl) rfl ?_
      refine q_goto (tgt := 30) eX1_branches_152 (by decide) ?_
      exact q_subL rfl (h.1 hA hra1 r5)
set_option maxRecDepth 20000 in
theorem s_X1_branches_30 {s : ST} {a1 : Int} {a2 : Int64} {a4 : Int64} {a6 : Int64} {a8 : Int} {Q : ST → Int64 → Prop} (h : RA s → R32 a1 → R32 a8 → ((s.1 69 4 ≤ a8 → K_X1_branches_155 s a2 a6 Q) ∧ (¬ s.1 69 4 ≤ a8 → ((512 ≤ a8 → K_X1_branches_155 s a2 a6 Q) ∧ (¬ 512 ≤ a8 → (((0 : Int) ≤ a8 ∧ a8 < 512) ∧ (((0 : Int) ≤ a1 ∧ a1 < 26) ∧ (((s.2 70 a8 &&& s.2 72 a1) = 0 → ((¬ (s.2 70 a8 &&& (s.2 73 a1 ^^^ (-1))) = 0 → ((¬ ((s.2 70 a8 &&& (s.2 73 a1 ^^^ (-1))) &&& a4) = 0 → K_X1_branches_126 s a1 a2 a4 a6 a8 (s.2 70 a8 &&& (s.2 73 a1 ^^^ (-1))) Q) ∧ (((s.2 70 a8 &&& (s.2 73 a1 ^^^ (-1))) &&& a4) = 0 → (C_X1_leastWeight s (s.2 70 a8 &&& (s.2 73 a1 ^^^ (-1))) (fun s3 v3 => K_X1_branches_126 s3 a1 a2 (a4 ||| (s.2 70 a8 &&& (s.2 73 a1 ^^^ (-1)))) (a6 + v3) a8 (s.2 70 a8 &&& (s.2 73 a1 ^^^ (-1))) Q))))) ∧ ((s.2 70 a8 &&& (s.2 73 a1 ^^^ (-1))) = 0 → Q s 0))) ∧ (¬ (s.2 70 a8 &&& s.2 72 a1) = 0 → (R32 (a8 + 1) ∧ K_X1_branches_30 s a1 a2 a4 a6 (a8 + 1) Q)))))))))) : K_X1_branches_30 s a1 a2 a4 a6 a8 Q := by
  refine ⟨?_, trivial⟩
  intro hA hra1 hra8
  have h := h hA hra1 hra8
  refine q_iload eX1_branches_30 rfl ?_
  refine q_aload_n eX1_branches_32 rfl ?_
  refine q_getf (c := 1) (n := 0) (k := 4) (v := .int (Int32.ofInt (s.1 69 4))) eX1_branches_33 rfl (by decide) (by decide) fX1_42 rfl ?_
  refine q_cz_ge (tgt := 155) (a := a8) (b := s.1 69 4) eX1_branches_36 (by decide) (ofz hra8) (ofz (hA _ _)) (fun c36 => ?_) (fun c36 => ?_)
  · have h := h.1 c36
    exact q_subL rfl (h.1 hA)
  · have h := h.2 c36
    refine q_iload eX1_branches_39 rfl ?_
    refine q_si (v := Int32.ofInt 512) eX1_branches_41 rfl ?_
    refine q_cz_ge (tgt := 155) (a := a8) (b := 512) eX1_branches_44 (by decide) (ofz hra8) (ofz (r32l rfl)) (fun c44 => ?_) (fun c44 => ?_)
    · have h := h.1 c44
      exact q_subL rfl (h.1 hA)
    · have h := h.2 c44
      refine q_aload_n eX1_branches_47 rfl ?_
      refine q_getR (c := 1) (n := 0) (k := 7) (a := 70) eX1_branches_48 rfl (by decide) (by decide) fX1_11 rfl rfl ?_
      refine q_iload eX1_branches_51 rfl ?_
      have f1 := h.1
      have h := h.2
      refine z_lald (n := 512) eX1_branches_53 rfl (ofz hra8) f1 ?_
      refine q_topL (v := s.2 70 a8) rfl ?_
      refine q_aload_n eX1_branches_54 rfl ?_
      refine q_getR (c := 1) (n := 0) (k := 9) (a := 72) eX1_branches_55 rfl (by decide) (by decide) fX1_18 rfl rfl ?_
      refine q_iload_n eX1_branches_58 rfl ?_
      have f2 := h.1
      have h := h.2
      refine z_lald (n := 26) eX1_branches_59 rfl (ofz hra1) f2 ?_
      refine q_topL (v := s.2 72 a1) rfl ?_
      refine q_land eX1_branches_60 ?_
      refine q_lc (v := 0) eX1_branches_61 rfl ?_
      refine q_lcmp eX1_branches_62 ?_
      refine z_lc_eq (tgt := 69) eX1_branches_63 (by decide) (fun c63 => ?_) (fun c63 => ?_)
      · have h := h.1 c63
        refine q_aload_n eX1_branches_69 rfl ?_
        refine q_getR (c := 1) (n := 0) (k := 7) (a := 70) eX1_branches_70 rfl (by decide) (by decide) fX1_11 rfl rfl ?_
        refine q_iload eX1_branches_73 rfl ?_
        refine z_lald (n := 512) eX1_branches_75 rfl (ofz hra8) f1 ?_
        refine q_topL (v := s.2 70 a8) rfl ?_
        refine q_aload_n eX1_branches_76 rfl ?_
        refine q_getR (c := 1) (n := 0) (k := 10) (a := 73) eX1_branches_77 rfl (by decide) (by decide) fX1_21 rfl rfl ?_
        refine q_iload_n eX1_branches_80 rfl ?_
        refine z_lald (n := 26) eX1_branches_81 rfl (ofz hra1) f2 ?_
        refine q_topL (v := s.2 73 a1) rfl ?_
        refine q_ldc2 (v := (-1)) eX1_branches_82 nX1_63 ?_
        refine q_lxor eX1_branches_85 ?_
        refine q_land eX1_branches_86 ?_
        refine q_lstore eX1_branches_87 (Nat.le_of_ble_eq_true rfl) ?_
        refine q_lload eX1_branches_89 rfl ?_
        refine q_lc (v := 0) eX1_branches_91 rfl ?_
        refine q_lcmp eX1_branches_92 ?_
        refine z_lc_ne (tgt := 98) eX1_branches_93 (by decide) (fun c93 => ?_) (fun c93 => ?_)
        · have h := h.1 c93
          refine q_lload eX1_branches_98 rfl ?_
          refine q_lload eX1_branches_100 rfl ?_
          refine q_land eX1_branches_102 ?_
          refine q_lc (v := 0) eX1_branches_103 rfl ?_
          refine q_lcmp eX1_branches_104 ?_
          refine z_lc_ne (tgt := 126) eX1_branches_105 (by decide) (fun c105 => ?_) (fun c105 => ?_)
          · have h := h.1 c105
            exact q_subL rfl (h.1 hA hra1 hra8)
          · have h := h.2 c105
            refine q_lload eX1_branches_108 rfl ?_
            refine q_lload eX1_branches_110 rfl ?_
            refine q_lor eX1_branches_112 ?_
            refine q_lstore eX1_branches_113 (Nat.le_of_ble_eq_true rfl) ?_
            refine q_lload eX1_branches_115 rfl ?_
            refine q_aload_n eX1_branches_117 rfl ?_
            refine q_lload eX1_branches_118 rfl ?_
            refine q_V1 (ci := 1) (n := 0) eX1_branches_120 DX1_leastWeight lX1_91 rfl (by decide) rfl rfl rfl rfl (h.1 hA) ?_
            rintro _ _ ⟨s3, v3, rfl, hA3, rfl, h⟩
            refine q_ladd eX1_branches_123 ?_
            refine q_lstore eX1_branches_124 (Nat.le_of_ble_eq_true rfl) ?_
            exact q_subL rfl (h.1 hA3 hra1 hra8)
        · have h := h.2 c93
          refine q_lc (v := 0) eX1_branches_96 rfl ?_
          exact q_lret eX1_branches_97 rfl ⟨_, _, rfl, hA, rfl, h⟩
      · have h := h.2 c63
        refine q_goto (tgt := 149) eX1_branches_66 (by decide) ?_
        have r4 := h.1
        have h := h.2
        refine z_inc (m := 1) eX1_branches_149 rfl (Nat.le_of_ble_eq_true rfl) rfl ?_
        refine q_goto (tgt := 30) eX1_branches_152 (by decide) ?_
        exact q_subL rfl (h.1 hA hra1 r4)
set_option maxRecDepth 20000 in
theorem s_X1_branches {s : ST} {p : Int} {Q : ST → Int64 → Prop} (h : RA s → R32 p → ((p < 0 → Q s 0) ∧ (¬ p < 0 → ((p < 26 → (((0 : Int) ≤ p ∧ p < 26) ∧ K_X1_branches_30 s p (-1) 0 (s.2 74 p) 0 Q)) ∧ (¬ p < 26 → Q s 0))))) : C_X1_branches s p Q := by
  refine ⟨?_, trivial⟩
  intro hA hrp
  have h := h hA hrp
  refine q_enter (by decide) (Nat.le_of_ble_eq_true rfl) ?_
  refine q_iload_n eX1_branches_0 rfl ?_
  refine q_iz_lt (tgt := 10) (a := p) eX1_branches_1 (by decide) (ofz hrp) (fun c1 => ?_) (fun c1 => ?_)
  · have h := h.1 c1
    refine q_lc (v := 0) eX1_branches_10 rfl ?_
    exact q_lret eX1_branches_11 rfl ⟨_, _, rfl, hA, rfl, h⟩
  · have h := h.2 c1
    refine q_iload_n eX1_branches_4 rfl ?_
    refine q_bi (v := Int32.ofInt 26) eX1_branches_5 rfl ?_
    refine q_cz_lt (tgt := 12) (a := p) (b := 26) eX1_branches_7 (by decide) (ofz hrp) (ofz (r32l rfl)) (fun c7 => ?_) (fun c7 => ?_)
    · have h := h.1 c7
      refine q_ldc2 (v := (-1)) eX1_branches_12 nX1_63 ?_
      refine q_lstore_n eX1_branches_15 (Nat.le_of_ble_eq_true rfl) ?_
      refine q_lc (v := 0) eX1_branches_16 rfl ?_
      refine q_lstore eX1_branches_17 (Nat.le_of_ble_eq_true rfl) ?_
      refine q_aload_n eX1_branches_19 rfl ?_
      refine q_getR (c := 1) (n := 0) (k := 11) (a := 74) eX1_branches_20 rfl (by decide) (by decide) fX1_24 rfl rfl ?_
      refine q_iload_n eX1_branches_23 rfl ?_
      have f1 := h.1
      have h := h.2
      refine z_lald (n := 26) eX1_branches_24 rfl (ofz hrp) f1 ?_
      refine q_topL (v := s.2 74 p) rfl ?_
      refine q_lstore eX1_branches_25 (Nat.le_of_ble_eq_true rfl) ?_
      refine q_ic (v := Int32.ofInt 0) eX1_branches_27 rfl ?_
      refine q_istore eX1_branches_28 (Nat.le_of_ble_eq_true rfl) ?_
      exact q_subL rfl (h.1 hA hrp (r32l rfl))
    · have h := h.2 c7
      refine q_lc (v := 0) eX1_branches_10 rfl ?_
      exact q_lret eX1_branches_11 rfl ⟨_, _, rfl, hA, rfl, h⟩
