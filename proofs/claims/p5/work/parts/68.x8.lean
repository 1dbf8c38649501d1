/-! STEP ROWS of the class. By program (wip/wp/gen_parts.py). -/
theorem eX7_readKinds_0 : decode cX7_readKinds 0 = .ok (.aload_n 0, 1) := by decide +kernel
theorem eX7_readKinds_1 : decode cX7_readKinds 1 = .ok (.getfield 33, 3) := by decide +kernel
theorem eX7_readKinds_4 : decode cX7_readKinds 4 = .ok (.iload_n 1, 1) := by decide +kernel
theorem eX7_readKinds_5 : decode cX7_readKinds 5 = .ok (.invokevirtual 122, 3) := by decide +kernel
theorem eX7_readKinds_8 : decode cX7_readKinds 8 = .ok (.ifCond .ne 4, 3) := by decide +kernel
theorem eX7_readKinds_11 : decode cX7_readKinds 11 = .ok (.return_, 1) := by decide +kernel
theorem eX7_readKinds_12 : decode cX7_readKinds 12 = .ok (.aload_n 0, 1) := by decide +kernel
theorem eX7_readKinds_13 : decode cX7_readKinds 13 = .ok (.getfield 33, 3) := by decide +kernel
theorem eX7_readKinds_16 : decode cX7_readKinds 16 = .ok (.getfield 182, 3) := by decide +kernel
theorem eX7_readKinds_19 : decode cX7_readKinds 19 = .ok (.iload_n 1, 1) := by decide +kernel
theorem eX7_readKinds_20 : decode cX7_readKinds 20 = .ok (.aload_n 0, 1) := by decide +kernel
theorem eX7_readKinds_21 : decode cX7_readKinds 21 = .ok (.getfield 33, 3) := by decide +kernel
theorem eX7_readKinds_24 : decode cX7_readKinds 24 = .ok (.getfield 185, 3) := by decide +kernel
theorem eX7_readKinds_27 : decode cX7_readKinds 27 = .ok (.iastore, 1) := by decide +kernel
theorem eX7_readKinds_28 : decode cX7_readKinds 28 = .ok (.iconst 1, 1) := by decide +kernel
theorem eX7_readKinds_29 : decode cX7_readKinds 29 = .ok (.istore_n 2, 1) := by decide +kernel
theorem eX7_readKinds_30 : decode cX7_readKinds 30 = .ok (.iconst 0, 1) := by decide +kernel
theorem eX7_readKinds_31 : decode cX7_readKinds 31 = .ok (.istore_n 3, 1) := by decide +kernel
theorem eX7_readKinds_32 : decode cX7_readKinds 32 = .ok (.iload_n 3, 1) := by decide +kernel
theorem eX7_readKinds_33 : decode cX7_readKinds 33 = .ok (.bipush 20, 2) := by decide +kernel
theorem eX7_readKinds_35 : decode cX7_readKinds 35 = .ok (.if_icmp .gt 124, 3) := by decide +kernel
theorem eX7_readKinds_38 : decode cX7_readKinds 38 = .ok (.iload_n 2, 1) := by decide +kernel
theorem eX7_readKinds_39 : decode cX7_readKinds 39 = .ok (.ifCond .le 120, 3) := by decide +kernel
theorem eX7_readKinds_42 : decode cX7_readKinds 42 = .ok (.aload_n 0, 1) := by decide +kernel
theorem eX7_readKinds_43 : decode cX7_readKinds 43 = .ok (.getfield 69, 3) := by decide +kernel
theorem eX7_readKinds_46 : decode cX7_readKinds 46 = .ok (.iconst 1, 1) := by decide +kernel
theorem eX7_readKinds_47 : decode cX7_readKinds 47 = .ok (.if_icmp .ne 21, 3) := by decide +kernel
theorem eX7_readKinds_50 : decode cX7_readKinds 50 = .ok (.aload_n 0, 1) := by decide +kernel
theorem eX7_readKinds_51 : decode cX7_readKinds 51 = .ok (.getfield 88, 3) := by decide +kernel
theorem eX7_readKinds_54 : decode cX7_readKinds 54 = .ok (.iconst (-1), 1) := by decide +kernel
theorem eX7_readKinds_55 : decode cX7_readKinds 55 = .ok (.if_icmp .eq 13, 3) := by decide +kernel
theorem eX7_readKinds_58 : decode cX7_readKinds 58 = .ok (.aload_n 0, 1) := by decide +kernel
theorem eX7_readKinds_59 : decode cX7_readKinds 59 = .ok (.getfield 88, 3) := by decide +kernel
theorem eX7_readKinds_62 : decode cX7_readKinds 62 = .ok (.bipush 17, 2) := by decide +kernel
theorem eX7_readKinds_64 : decode cX7_readKinds 64 = .ok (.isub, 1) := by decide +kernel
theorem eX7_readKinds_65 : decode cX7_readKinds 65 = .ok (.goto 4, 3) := by decide +kernel
theorem eX7_readKinds_68 : decode cX7_readKinds 68 = .ok (.iconst (-1), 1) := by decide +kernel
theorem eX7_readKinds_69 : decode cX7_readKinds 69 = .ok (.istore 4, 2) := by decide +kernel
theorem eX7_readKinds_71 : decode cX7_readKinds 71 = .ok (.iload 4, 2) := by decide +kernel
theorem eX7_readKinds_73 : decode cX7_readKinds 73 = .ok (.ifCond .lt 31, 3) := by decide +kernel
theorem eX7_readKinds_76 : decode cX7_readKinds 76 = .ok (.iload 4, 2) := by decide +kernel
theorem eX7_readKinds_78 : decode cX7_readKinds 78 = .ok (.iconst 5, 1) := by decide +kernel
theorem eX7_readKinds_79 : decode cX7_readKinds 79 = .ok (.if_icmp .gt 25, 3) := by decide +kernel
theorem eX7_readKinds_82 : decode cX7_readKinds 82 = .ok (.aload_n 0, 1) := by decide +kernel
theorem eX7_readKinds_83 : decode cX7_readKinds 83 = .ok (.getfield 33, 3) := by decide +kernel
theorem eX7_readKinds_86 : decode cX7_readKinds 86 = .ok (.getfield 185, 3) := by decide +kernel
theorem eX7_readKinds_89 : decode cX7_readKinds 89 = .ok (.ifCond .lt 15, 3) := by decide +kernel
theorem eX7_readKinds_92 : decode cX7_readKinds 92 = .ok (.aload_n 0, 1) := by decide +kernel
theorem eX7_readKinds_93 : decode cX7_readKinds 93 = .ok (.getfield 33, 3) := by decide +kernel
theorem eX7_readKinds_96 : decode cX7_readKinds 96 = .ok (.getfield 185, 3) := by decide +kernel
theorem eX7_readKinds_99 : decode cX7_readKinds 99 = .ok (.bipush 20, 2) := by decide +kernel
theorem eX7_readKinds_101 : decode cX7_readKinds 101 = .ok (.if_icmp .lt 8, 3) := by decide +kernel
theorem eX7_readKinds_104 : decode cX7_readKinds 104 = .ok (.aload_n 0, 1) := by decide +kernel
theorem eX7_readKinds_105 : decode cX7_readKinds 105 = .ok (.invokevirtual 98, 3) := by decide +kernel
theorem eX7_readKinds_108 : decode cX7_readKinds 108 = .ok (.return_, 1) := by decide +kernel
theorem eX7_readKinds_109 : decode cX7_readKinds 109 = .ok (.aload_n 0, 1) := by decide +kernel
theorem eX7_readKinds_110 : decode cX7_readKinds 110 = .ok (.getfield 33, 3) := by decide +kernel
theorem eX7_readKinds_113 : decode cX7_readKinds 113 = .ok (.getfield 188, 3) := by decide +kernel
theorem eX7_readKinds_116 : decode cX7_readKinds 116 = .ok (.aload_n 0, 1) := by decide +kernel
theorem eX7_readKinds_117 : decode cX7_readKinds 117 = .ok (.getfield 33, 3) := by decide +kernel
theorem eX7_readKinds_120 : decode cX7_readKinds 120 = .ok (.getfield 185, 3) := by decide +kernel
theorem eX7_readKinds_123 : decode cX7_readKinds 123 = .ok (.iload 4, 2) := by decide +kernel
theorem eX7_readKinds_125 : decode cX7_readKinds 125 = .ok (.iastore, 1) := by decide +kernel
theorem eX7_readKinds_126 : decode cX7_readKinds 126 = .ok (.aload_n 0, 1) := by decide +kernel
theorem eX7_readKinds_127 : decode cX7_readKinds 127 = .ok (.getfield 33, 3) := by decide +kernel
theorem eX7_readKinds_130 : decode cX7_readKinds 130 = .ok (.dup, 1) := by decide +kernel
theorem eX7_readKinds_131 : decode cX7_readKinds 131 = .ok (.getfield 185, 3) := by decide +kernel
theorem eX7_readKinds_134 : decode cX7_readKinds 134 = .ok (.iconst 1, 1) := by decide +kernel
theorem eX7_readKinds_135 : decode cX7_readKinds 135 = .ok (.iadd, 1) := by decide +kernel
theorem eX7_readKinds_136 : decode cX7_readKinds 136 = .ok (.putfield 185, 3) := by decide +kernel
theorem eX7_readKinds_139 : decode cX7_readKinds 139 = .ok (.iload_n 2, 1) := by decide +kernel
theorem eX7_readKinds_140 : decode cX7_readKinds 140 = .ok (.iload 4, 2) := by decide +kernel
theorem eX7_readKinds_142 : decode cX7_readKinds 142 = .ok (.invokestatic 191, 3) := by decide +kernel
theorem eX7_readKinds_145 : decode cX7_readKinds 145 = .ok (.iconst 1, 1) := by decide +kernel
theorem eX7_readKinds_146 : decode cX7_readKinds 146 = .ok (.isub, 1) := by decide +kernel
theorem eX7_readKinds_147 : decode cX7_readKinds 147 = .ok (.iadd, 1) := by decide +kernel
theorem eX7_readKinds_148 : decode cX7_readKinds 148 = .ok (.istore_n 2, 1) := by decide +kernel
theorem eX7_readKinds_149 : decode cX7_readKinds 149 = .ok (.aload_n 0, 1) := by decide +kernel
theorem eX7_readKinds_150 : decode cX7_readKinds 150 = .ok (.invokevirtual 66, 3) := by decide +kernel
theorem eX7_readKinds_153 : decode cX7_readKinds 153 = .ok (.iinc 3 1, 3) := by decide +kernel
theorem eX7_readKinds_156 : decode cX7_readKinds 156 = .ok (.goto (-124), 3) := by decide +kernel
theorem eX7_readKinds_159 : decode cX7_readKinds 159 = .ok (.aload_n 0, 1) := by decide +kernel
theorem eX7_readKinds_160 : decode cX7_readKinds 160 = .ok (.getfield 33, 3) := by decide +kernel
theorem eX7_readKinds_163 : decode cX7_readKinds 163 = .ok (.getfield 194, 3) := by decide +kernel
theorem eX7_readKinds_166 : decode cX7_readKinds 166 = .ok (.iload_n 1, 1) := by decide +kernel
theorem eX7_readKinds_167 : decode cX7_readKinds 167 = .ok (.aload_n 0, 1) := by decide +kernel
theorem eX7_readKinds_168 : decode cX7_readKinds 168 = .ok (.getfield 33, 3) := by decide +kernel
theorem eX7_readKinds_171 : decode cX7_readKinds 171 = .ok (.getfield 185, 3) := by decide +kernel
theorem eX7_readKinds_174 : decode cX7_readKinds 174 = .ok (.aload_n 0, 1) := by decide +kernel
theorem eX7_readKinds_175 : decode cX7_readKinds 175 = .ok (.getfield 33, 3) := by decide +kernel
theorem eX7_readKinds_178 : decode cX7_readKinds 178 = .ok (.getfield 182, 3) := by decide +kernel
theorem eX7_readKinds_181 : decode cX7_readKinds 181 = .ok (.iload_n 1, 1) := by decide +kernel
theorem eX7_readKinds_182 : decode cX7_readKinds 182 = .ok (.iaload, 1) := by decide +kernel
theorem eX7_readKinds_183 : decode cX7_readKinds 183 = .ok (.isub, 1) := by decide +kernel
theorem eX7_readKinds_184 : decode cX7_readKinds 184 = .ok (.iastore, 1) := by decide +kernel
theorem eX7_readKinds_185 : decode cX7_readKinds 185 = .ok (.return_, 1) := by decide +kernel
def C_X7_readKinds (s : ST) (p : Int) (Q : ST → Prop) : Prop := bx <| RA s → R32 p → q_met mX7_readKinds (qs layX s) [.ref 46, .int (Int32.ofInt p)] (PV layX Q)
theorem C_X7_readKinds.mono {s : ST} {p : Int} {Q Q' : ST → Prop} (h : C_X7_readKinds s p Q) (hq : ∀ s, Q s → Q' s) : C_X7_readKinds s p Q' := ⟨fun hA hrp => q_met.mono (h.1 hA hrp) (fun _ _ => PV.mono hq), trivial⟩
def K_X7_readKinds_159 (s : ST) (a1 : Int) (Q : ST → Prop) : Prop := bx <| RA s → R32 a1 → q_K mX7_readKinds (qs layX s) 0 0 159 [(0, .ref 46), (1, .int (Int32.ofInt a1))] [] (q_fin mX7_readKinds (PV layX Q))
def K_X7_readKinds_104 (s : ST) (Q : ST → Prop) : Prop := bx <| RA s → q_K mX7_readKinds (qs layX s) 0 0 104 [(0, .ref 46)] [] (q_fin mX7_readKinds (PV layX Q))
def K_X7_readKinds_69 (s : ST) (a1 : Int) (a2 : Int) (a3 : Int) (t0 : Int) (Q : ST → Prop) : Prop := bx <| RA s → R32 a1 → R32 a2 → R32 a3 → R32 t0 → q_K mX7_readKinds (qs layX s) 0 0 69 [(0, .ref 46), (1, .int (Int32.ofInt a1)), (2, .int (Int32.ofInt a2)), (3, .int (Int32.ofInt a3))] [.int (Int32.ofInt t0)] (q_fin mX7_readKinds (PV layX Q))
def K_X7_readKinds_68 (s : ST) (a1 : Int) (a2 : Int) (a3 : Int) (Q : ST → Prop) : Prop := bx <| RA s → R32 a1 → R32 a2 → R32 a3 → q_K mX7_readKinds (qs layX s) 0 0 68 [(0, .ref 46), (1, .int (Int32.ofInt a1)), (2, .int (Int32.ofInt a2)), (3, .int (Int32.ofInt a3))] [] (q_fin mX7_readKinds (PV layX Q))
def K_X7_readKinds_32 (s : ST) (a1 : Int) (a2 : Int) (a3 : Int) (Q : ST → Prop) : Prop := bx <| RA s → R32 a1 → R32 a2 → R32 a3 → q_K mX7_readKinds (qs layX s) 0 0 32 [(0, .ref 46), (1, .int (Int32.ofInt a1)), (2, .int (Int32.ofInt a2)), (3, .int (Int32.ofInt a3))] [] (q_fin mX7_readKinds (PV layX Q))
set_option maxRecDepth 20000 in
theorem s_X7_readKinds_159 {s : ST} {a1 : Int} {Q : ST → Prop} (h : RA s → R32 a1 → (((0 : Int) ≤ a1 ∧ a1 < 40) ∧ (R32 (s.1 18 2 - s.1 30 a1) ∧ Q (ui s 31 a1 (s.1 18 2 - s.1 30 a1))))) : K_X7_readKinds_159 s a1 Q := by
  refine ⟨?_, trivial⟩
  intro hA hra1
  have h := h hA hra1
  refine q_aload_n eX7_readKinds_159 rfl ?_
  refine q_getR (c := 7) (n := 0) (k := 10) (a := 18) eX7_readKinds_160 rfl (by decide) (by decide) fX7_33 rfl rfl ?_
  refine q_getR (c := 9) (n := 0) (k := 15) (a := 31) eX7_readKinds_163 rfl (by decide) (by decide) fX7_194 rfl rfl ?_
  refine q_iload_n eX7_readKinds_166 rfl ?_
  refine q_aload_n eX7_readKinds_167 rfl ?_
  refine q_getR (c := 7) (n := 0) (k := 10) (a := 18) eX7_readKinds_168 rfl (by decide) (by decide) fX7_33 rfl rfl ?_
  refine q_getf (c := 9) (n := 0) (k := 2) (v := .int (Int32.ofInt (s.1 18 2))) eX7_readKinds_171 rfl (by decide) (by decide) fX7_185 rfl ?_
  refine q_aload_n eX7_readKinds_174 rfl ?_
  refine q_getR (c := 7) (n := 0) (k := 10) (a := 18) eX7_readKinds_175 rfl (by decide) (by decide) fX7_33 rfl rfl ?_
  refine q_getR (c := 9) (n := 0) (k := 14) (a := 30) eX7_readKinds_178 rfl (by decide) (by decide) fX7_182 rfl rfl ?_
  refine q_iload_n eX7_readKinds_181 rfl ?_
  have f1 := h.1
  have h := h.2
  refine z_iald (n := 40) eX7_readKinds_182 rfl (ofz hra1) f1 ?_
  refine q_topI (v := Int32.ofInt (s.1 30 a1)) rfl ?_
  refine z_isub eX7_readKinds_183 ?_
  have r2 := h.1
  have h := h.2
  refine z_iast (n := 40) eX7_readKinds_184 rfl (ofz hra1) f1  ?_
  exact q_ret eX7_readKinds_185 rfl ⟨_, rfl, (ra_ui hA r2), rfl, h⟩
set_option maxRecDepth 20000 in
theorem s_X7_readKinds_104 {s : ST} {Q : ST → Prop} (h : RA s → (C_X7_refuseToken s (fun s1 => Q s1))) : K_X7_readKinds_104 s Q := by
  refine ⟨?_, trivial⟩
  intro hA
  have h := h hA
  refine q_aload_n eX7_readKinds_104 rfl ?_
  refine q_V0 (ci := 7) (n := 0) eX7_readKinds_105 DX7_refuseToken lX7_98 rfl (by decide) rfl rfl rfl rfl (h.1 hA) ?_
  rintro _ _ ⟨s1, rfl, hA1, rfl, h⟩
  exact q_ret eX7_readKinds_108 rfl ⟨_, rfl, hA1, rfl, h⟩
set_option maxRecDepth 20000 in
theorem s_X7_readKinds_69 {s : ST} {a1 : Int} {a2 : Int} {a3 : Int} {t0 : Int} {Q : ST → Prop} (h : RA s → R32 a1 → R32 a2 → R32 a3 → R32 t0 → ((t0 < 0 → K_X7_readKinds_104 s Q) ∧ (¬ t0 < 0 → ((5 < t0 → K_X7_readKinds_104 s Q) ∧ (¬ 5 < t0 → ((s.1 18 2 < 0 → K_X7_readKinds_104 s Q) ∧ (¬ s.1 18 2 < 0 → ((s.1 18 2 < 20 → (((0 : Int) ≤ s.1 18 2 ∧ s.1 18 2 < 20) ∧ (R32 (s.1 18 2 + 1) ∧ (P_X10_kindArity (ui (ui s 32 (s.1 18 2) t0) 18 2 (s.1 18 2 + 1)) t0 ∧ (R32 ((F_X10_kindArity (ui (ui s 32 (s.1 18 2) t0) 18 2 (s.1 18 2 + 1)) t0) - 1) ∧ (R32 (a2 + ((F_X10_kindArity (ui (ui s 32 (s.1 18 2) t0) 18 2 (s.1 18 2 + 1)) t0) - 1)) ∧ (C_X7_readToken (ui (ui s 32 (s.1 18 2) t0) 18 2 (s.1 18 2 + 1)) (fun s7 => (R32 (a3 + 1) ∧ K_X7_readKinds_32 s7 a1 (a2 + ((F_X10_kindArity (ui (ui s 32 (s.1 18 2) t0) 18 2 (s.1 18 2 + 1)) t0) - 1)) (a3 + 1) Q))))))))) ∧ (¬ s.1 18 2 < 20 → K_X7_readKinds_104 s Q))))))))) : K_X7_readKinds_69 s a1 a2 a3 t0 Q := by
  refine ⟨?_, trivial⟩
  intro hA hra1 hra2 hra3 hrt0
  have h := h hA hra1 hra2 hra3 hrt0
  refine q_istore eX7_readKinds_69 (Nat.le_of_ble_eq_true rfl) ?_
  refine q_iload eX7_readKinds_71 rfl ?_
  refine q_iz_lt (tgt := 104) (a := t0) eX7_readKinds_73 (by decide) (ofz hrt0) (fun c73 => ?_) (fun c73 => ?_)
  · have h := h.1 c73
    exact q_subL rfl (h.1 hA)
  · have h := h.2 c73
    refine q_iload eX7_readKinds_76 rfl ?_
    refine q_ic (v := Int32.ofInt 5) eX7_readKinds_78 rfl ?_
    refine q_cz_gt (tgt := 104) (a := t0) (b := 5) eX7_readKinds_79 (by decide) (ofz hrt0) (ofz (r32l rfl)) (fun c79 => ?_) (fun c79 => ?_)
    · have h := h.1 c79
      exact q_subL rfl (h.1 hA)
    · have h := h.2 c79
      refine q_aload_n eX7_readKinds_82 rfl ?_
      refine q_getR (c := 7) (n := 0) (k := 10) (a := 18) eX7_readKinds_83 rfl (by decide) (by decide) fX7_33 rfl rfl ?_
      refine q_getf (c := 9) (n := 0) (k := 2) (v := .int (Int32.ofInt (s.1 18 2))) eX7_readKinds_86 rfl (by decide) (by decide) fX7_185 rfl ?_
      refine q_iz_lt (tgt := 104) (a := s.1 18 2) eX7_readKinds_89 (by decide) (ofz (hA _ _)) (fun c89 => ?_) (fun c89 => ?_)
      · have h := h.1 c89
        exact q_subL rfl (h.1 hA)
      · have h := h.2 c89
        refine q_aload_n eX7_readKinds_92 rfl ?_
        refine q_getR (c := 7) (n := 0) (k := 10) (a := 18) eX7_readKinds_93 rfl (by decide) (by decide) fX7_33 rfl rfl ?_
        refine q_getf (c := 9) (n := 0) (k := 2) (v := .int (Int32.ofInt (s.1 18 2))) eX7_readKinds_96 rfl (by decide) (by decide) fX7_185 rfl ?_
        refine q_bi (v := Int32.ofInt 20) eX7_readKinds_99 rfl ?_
        refine q_cz_lt (tgt := 109) (a := s.1 18 2) (b := 20) eX7_readKinds_101 (by decide) (ofz (hA _ _)) (ofz (r32l rfl)) (fun c101 => ?_) (fun c101 => ?_)
        · have h := h.1 c101
          refine q_aload_n eX7_readKinds_109 rfl ?_
          refine q_getR (c := 7) (n := 0) (k := 10) (a := 18) eX7_readKinds_110 rfl (by decide) (by decide) fX7_33 rfl rfl ?_
          refine q_getR (c := 9) (n := 0) (k := 16) (a := 32) eX7_readKinds_113 rfl (by decide) (by decide) fX7_188 rfl rfl ?_
          refine q_aload_n eX7_readKinds_116 rfl ?_
          refine q_getR (c := 7) (n := 0) (k := 10) (a := 18) eX7_readKinds_117 rfl (by decide) (by decide) fX7_33 rfl rfl ?_
          refine q_getf (c := 9) (n := 0) (k := 2) (v := .int (Int32.ofInt (s.1 18 2))) eX7_readKinds_120 rfl (by decide) (by decide) fX7_185 rfl ?_
          refine q_iload eX7_readKinds_123 rfl ?_
          have f1 := h.1
          have h := h.2
          refine z_iast (n := 20) eX7_readKinds_125 rfl (ofz (hA _ _)) f1  ?_
          refine q_aload_n eX7_readKinds_126 rfl ?_
          refine q_getR (c := 7) (n := 0) (k := 10) (a := 18) eX7_readKinds_127 rfl (by decide) (by decide) fX7_33 rfl rfl ?_
          refine q_dup eX7_readKinds_130 rfl ?_
          refine q_getf (c := 9) (n := 0) (k := 2) (v := .int (Int32.ofInt (s.1 18 2))) eX7_readKinds_131 rfl (by decide) (by decide) fX7_185 rfl ?_
          refine q_ic (v := Int32.ofInt 1) eX7_readKinds_134 rfl ?_
          refine z_iadd eX7_readKinds_135 ?_
          have r2 := h.1
          have h := h.2
          refine z_putI (c := 9) (n := 0) (k := 2) (kz := 2) eX7_readKinds_136 rfl (by decide) (by decide) fX7_185 rfl rfl rfl ?_
          refine q_iload_n eX7_readKinds_139 rfl ?_
          refine q_iload eX7_readKinds_140 rfl ?_
          have f4 := h.1
          have h := h.2
          refine q_SN1 (host := "WhyNot") eX7_readKinds_142 DX10_kindArity (by decide) rfl rfl rfl (p_X10_kindArity f4 (ra_ui (ra_ui hA hrt0) r2) hrt0) ?_
          rintro _ _ ⟨r3, rfl, rfl⟩
          refine q_ic (v := Int32.ofInt 1) eX7_readKinds_145 rfl ?_
          refine z_isub eX7_readKinds_146 ?_
          have r5 := h.1
          have h := h.2
          refine z_iadd eX7_readKinds_147 ?_
          have r6 := h.1
          have h := h.2
          refine q_istore_n eX7_readKinds_148 (Nat.le_of_ble_eq_true rfl) ?_
          refine q_aload_n eX7_readKinds_149 rfl ?_
          refine q_V0 (ci := 7) (n := 0) eX7_readKinds_150 DX7_readToken lX7_66 rfl (by decide) rfl rfl rfl rfl (h.1 (ra_ui (ra_ui hA hrt0) r2)) ?_
          rintro _ _ ⟨s7, rfl, hA7, rfl, h⟩
          have r8 := h.1
          have h := h.2
          refine z_inc (m := 1) eX7_readKinds_153 rfl (Nat.le_of_ble_eq_true rfl) rfl ?_
          refine q_goto (tgt := 32) eX7_readKinds_156 (by decide) ?_
          exact q_subL rfl (h.1 hA7 hra1 r6 r8)
        · have h := h.2 c101
          exact q_subL rfl (h.1 hA)
set_option maxRecDepth 20000 in
theorem s_X7_readKinds_68 {s : ST} {a1 : Int} {a2 : Int} {a3 : Int} {Q : ST → Prop} (h : RA s → R32 a1 → R32 a2 → R32 a3 → K_X7_readKinds_69 s a1 a2 a3 (-1) Q) : K_X7_readKinds_68 s a1 a2 a3 Q := by
  refine ⟨?_, trivial⟩
  intro hA hra1 hra2 hra3
  have h := h hA hra1 hra2 hra3
  refine q_ic (v := Int32.ofInt (-1)) eX7_readKinds_68 rfl ?_
  exact q_subL rfl (h.1 hA hra1 hra2 hra3 (r32l rfl))
set_option maxRecDepth 20000 in
theorem s_X7_readKinds_32 {s : ST} {a1 : Int} {a2 : Int} {a3 : Int} {Q : ST → Prop} (h : RA s → R32 a1 → R32 a2 → R32 a3 → ((20 < a3 → K_X7_readKinds_159 s a1 Q) ∧ (¬ 20 < a3 → ((a2 ≤ 0 → K_X7_readKinds_159 s a1 Q) ∧ (¬ a2 ≤ 0 → ((¬ s.1 46 5 = 1 → K_X7_readKinds_68 s a1 a2 a3 Q) ∧ (s.1 46 5 = 1 → ((s.1 46 9 = (-1) → K_X7_readKinds_68 s a1 a2 a3 Q) ∧ (¬ s.1 46 9 = (-1) → (R32 (s.1 46 9 - 17) ∧ K_X7_readKinds_69 s a1 a2 a3 (s.1 46 9 - 17) Q)))))))))) : K_X7_readKinds_32 s a1 a2 a3 Q := by
  refine ⟨?_, trivial⟩
  intro hA hra1 hra2 hra3
  have h := h hA hra1 hra2 hra3
  refine q_iload_n eX7_readKinds_32 rfl ?_
  refine q_bi (v := Int32.ofInt 20) eX7_readKinds_33 rfl ?_
  refine q_cz_gt (tgt := 159) (a := a3) (b := 20) eX7_readKinds_35 (by decide) (ofz hra3) (ofz (r32l rfl)) (fun c35 => ?_) (fun c35 => ?_)
  · have h := h.1 c35
    exact q_subL rfl (h.1 hA hra1)
  · have h := h.2 c35
    refine q_iload_n eX7_readKinds_38 rfl ?_
    refine q_iz_le (tgt := 159) (a := a2) eX7_readKinds_39 (by decide) (ofz hra2) (fun c39 => ?_) (fun c39 => ?_)
    · have h := h.1 c39
      exact q_subL rfl (h.1 hA hra1)
    · have h := h.2 c39
      refine q_aload_n eX7_readKinds_42 rfl ?_
      refine q_getf (c := 7) (n := 0) (k := 5) (v := .int (Int32.ofInt (s.1 46 5))) eX7_readKinds_43 rfl (by decide) (by decide) fX7_69 rfl ?_
      refine q_ic (v := Int32.ofInt 1) eX7_readKinds_46 rfl ?_
      refine q_cz_ne (tgt := 68) (a := s.1 46 5) (b := 1) eX7_readKinds_47 (by decide) (ofz (hA _ _)) (ofz (r32l rfl)) (fun c47 => ?_) (fun c47 => ?_)
      · have h := h.1 c47
        exact q_subL rfl (h.1 hA hra1 hra2 hra3)
      · have h := h.2 c47
        refine q_aload_n eX7_readKinds_50 rfl ?_
        refine q_getf (c := 7) (n := 0) (k := 9) (v := .int (Int32.ofInt (s.1 46 9))) eX7_readKinds_51 rfl (by decide) (by decide) fX7_88 rfl ?_
        refine q_ic (v := Int32.ofInt (-1)) eX7_readKinds_54 rfl ?_
        refine q_cz_eq (tgt := 68) (a := s.1 46 9) (b := (-1)) eX7_readKinds_55 (by decide) (ofz (hA _ _)) (ofz (r32l rfl)) (fun c55 => ?_) (fun c55 => ?_)
        · have h := h.1 c55
          exact q_subL rfl (h.1 hA hra1 hra2 hra3)
        · have h := h.2 c55
          refine q_aload_n eX7_readKinds_58 rfl ?_
          refine q_getf (c := 7) (n := 0) (k := 9) (v := .int (Int32.ofInt (s.1 46 9))) eX7_readKinds_59 rfl (by decide) (by decide) fX7_88 rfl ?_
          refine q_bi (v := Int32.ofInt 17) eX7_readKinds_62 rfl ?_
          refine z_isub eX7_readKinds_64 ?_
          have r1 := h.1
          have h := h.2
          refine q_goto (tgt := 69) eX7_readKinds_65 (by decide) ?_
          exact q_subL rfl (h.1 hA hra1 hra2 hra3 r1)
set_option maxRecDepth 20000 in
theorem s_X7_readKinds {s : ST} {p : Int} {Q : ST → Prop} (h : RA s → R32 p → (((¬ p < 0 ∧ (¬ s.1 18 1 ≤ p ∧ ¬ 40 ≤ p)) → (((0 : Int) ≤ p ∧ p < 40) ∧ K_X7_readKinds_32 (ui s 30 p (s.1 18 2)) p 1 0 Q)) ∧ (¬ (¬ p < 0 ∧ (¬ s.1 18 1 ≤ p ∧ ¬ 40 ≤ p)) → Q s))) : C_X7_readKinds s p Q := by
  refine ⟨?_, trivial⟩
  intro hA hrp
  have h := h hA hrp
  refine q_enter (by decide) (Nat.le_of_ble_eq_true rfl) ?_
  refine q_aload_n eX7_readKinds_0 rfl ?_
  refine q_getR (c := 7) (n := 0) (k := 10) (a := 18) eX7_readKinds_1 rfl (by decide) (by decide) fX7_33 rfl rfl ?_
  refine q_iload_n eX7_readKinds_4 rfl ?_
  refine q_V1 (ci := 9) (n := 0) eX7_readKinds_5 DX9_has lX7_122 rfl (by decide) rfl rfl rfl rfl (p_X9_has (by decide) hA hrp) ?_
  rintro _ _ ⟨b1, rfl, rfl⟩
  refine q_iz_ne (tgt := 12) (a := (F_X9_has 18 s p)) eX7_readKinds_8 (by decide) (ofz (r01 b1)) (fun c8 => ?_) (fun c8 => ?_)
  · have h := h.1 (n_X9_has.mp c8)
    refine q_aload_n eX7_readKinds_12 rfl ?_
    refine q_getR (c := 7) (n := 0) (k := 10) (a := 18) eX7_readKinds_13 rfl (by decide) (by decide) fX7_33 rfl rfl ?_
    refine q_getR (c := 9) (n := 0) (k := 14) (a := 30) eX7_readKinds_16 rfl (by decide) (by decide) fX7_182 rfl rfl ?_
    refine q_iload_n eX7_readKinds_19 rfl ?_
    refine q_aload_n eX7_readKinds_20 rfl ?_
    refine q_getR (c := 7) (n := 0) (k := 10) (a := 18) eX7_readKinds_21 rfl (by decide) (by decide) fX7_33 rfl rfl ?_
    refine q_getf (c := 9) (n := 0) (k := 2) (v := .int (Int32.ofInt (s.1 18 2))) eX7_readKinds_24 rfl (by decide) (by decide) fX7_185 rfl ?_
    have f2 := h.1
    have h := h.2
    refine z_iast (n := 40) eX7_readKinds_27 rfl (ofz hrp) f2  ?_
    refine q_ic (v := Int32.ofInt 1) eX7_readKinds_28 rfl ?_
    refine q_istore_n eX7_readKinds_29 (Nat.le_of_ble_eq_true rfl) ?_
    refine q_ic (v := Int32.ofInt 0) eX7_readKinds_30 rfl ?_
    refine q_istore_n eX7_readKinds_31 (Nat.le_of_ble_eq_true rfl) ?_
    exact q_subL rfl (h.1 (ra_ui hA (hA _ _)) hrp (r32l rfl) (r32l rfl))
  · have h := h.2 (fun q => n_X9_has.mpr q c8)
    exact q_ret eX7_readKinds_11 rfl ⟨_, rfl, hA, rfl, h⟩
theorem eX7_readRest_0 : decode cX7_readRest 0 = .ok (.aload_n 0, 1) := by decide +kernel
theorem eX7_readRest_1 : decode cX7_readRest 1 = .ok (.getfield 33, 3) := by decide +kernel
theorem eX7_readRest_4 : decode cX7_readRest 4 = .ok (.iload_n 1, 1) := by decide +kernel
theorem eX7_readRest_5 : decode cX7_readRest 5 = .ok (.invokevirtual 122, 3) := by decide +kernel
theorem eX7_readRest_8 : decode cX7_readRest 8 = .ok (.ifCond .ne 4, 3) := by decide +kernel
theorem eX7_readRest_11 : decode cX7_readRest 11 = .ok (.return_, 1) := by decide +kernel
theorem eX7_readRest_12 : decode cX7_readRest 12 = .ok (.aload_n 0, 1) := by decide +kernel
theorem eX7_readRest_13 : decode cX7_readRest 13 = .ok (.getfield 33, 3) := by decide +kernel
theorem eX7_readRest_16 : decode cX7_readRest 16 = .ok (.getfield 128, 3) := by decide +kernel
theorem eX7_readRest_19 : decode cX7_readRest 19 = .ok (.iload_n 1, 1) := by decide +kernel
theorem eX7_readRest_20 : decode cX7_readRest 20 = .ok (.iaload, 1) := by decide +kernel
theorem eX7_readRest_21 : decode cX7_readRest 21 = .ok (.istore_n 2, 1) := by decide +kernel
theorem eX7_readRest_22 : decode cX7_readRest 22 = .ok (.iload_n 2, 1) := by decide +kernel
theorem eX7_readRest_23 : decode cX7_readRest 23 = .ok (.iconst 2, 1) := by decide +kernel
theorem eX7_readRest_24 : decode cX7_readRest 24 = .ok (.if_icmp .ne 17, 3) := by decide +kernel
theorem eX7_readRest_27 : decode cX7_readRest 27 = .ok (.aload_n 0, 1) := by decide +kernel
theorem eX7_readRest_28 : decode cX7_readRest 28 = .ok (.iload_n 1, 1) := by decide +kernel
theorem eX7_readRest_29 : decode cX7_readRest 29 = .ok (.invokevirtual 156, 3) := by decide +kernel
theorem eX7_readRest_32 : decode cX7_readRest 32 = .ok (.ifCond .ne 9, 3) := by decide +kernel
theorem eX7_readRest_35 : decode cX7_readRest 35 = .ok (.aload_n 0, 1) := by decide +kernel
theorem eX7_readRest_36 : decode cX7_readRest 36 = .ok (.iconst 4, 1) := by decide +kernel
theorem eX7_readRest_37 : decode cX7_readRest 37 = .ok (.invokevirtual 84, 3) := by decide +kernel
theorem eX7_readRest_40 : decode cX7_readRest 40 = .ok (.return_, 1) := by decide +kernel
theorem eX7_readRest_41 : decode cX7_readRest 41 = .ok (.aload_n 0, 1) := by decide +kernel
theorem eX7_readRest_42 : decode cX7_readRest 42 = .ok (.invokevirtual 66, 3) := by decide +kernel
theorem eX7_readRest_45 : decode cX7_readRest 45 = .ok (.iload_n 2, 1) := by decide +kernel
theorem eX7_readRest_46 : decode cX7_readRest 46 = .ok (.iconst 3, 1) := by decide +kernel
theorem eX7_readRest_47 : decode cX7_readRest 47 = .ok (.if_icmp .eq 8, 3) := by decide +kernel
theorem eX7_readRest_50 : decode cX7_readRest 50 = .ok (.iload_n 2, 1) := by decide +kernel
theorem eX7_readRest_51 : decode cX7_readRest 51 = .ok (.iconst 4, 1) := by decide +kernel
theorem eX7_readRest_52 : decode cX7_readRest 52 = .ok (.if_icmp .ne 11, 3) := by decide +kernel
theorem eX7_readRest_55 : decode cX7_readRest 55 = .ok (.aload_n 0, 1) := by decide +kernel
theorem eX7_readRest_56 : decode cX7_readRest 56 = .ok (.iload_n 1, 1) := by decide +kernel
theorem eX7_readRest_57 : decode cX7_readRest 57 = .ok (.invokevirtual 159, 3) := by decide +kernel
theorem eX7_readRest_60 : decode cX7_readRest 60 = .ok (.goto 14, 3) := by decide +kernel
theorem eX7_readRest_63 : decode cX7_readRest 63 = .ok (.iload_n 2, 1) := by decide +kernel
theorem eX7_readRest_64 : decode cX7_readRest 64 = .ok (.bipush 16, 2) := by decide +kernel
theorem eX7_readRest_66 : decode cX7_readRest 66 = .ok (.if_icmp .ne 8, 3) := by decide +kernel
theorem eX7_readRest_69 : decode cX7_readRest 69 = .ok (.aload_n 0, 1) := by decide +kernel
theorem eX7_readRest_70 : decode cX7_readRest 70 = .ok (.iload_n 1, 1) := by decide +kernel
theorem eX7_readRest_71 : decode cX7_readRest 71 = .ok (.invokevirtual 162, 3) := by decide +kernel
theorem eX7_readRest_74 : decode cX7_readRest 74 = .ok (.return_, 1) := by decide +kernel
def C_X7_readRest (s : ST) (p : Int) (Q : ST → Prop) : Prop := bx <| RA s → R32 p → q_met mX7_readRest (qs layX s) [.ref 46, .int (Int32.ofInt p)] (PV layX Q)
theorem C_X7_readRest.mono {s : ST} {p : Int} {Q Q' : ST → Prop} (h : C_X7_readRest s p Q) (hq : ∀ s, Q s → Q' s) : C_X7_readRest s p Q' := ⟨fun hA hrp => q_met.mono (h.1 hA hrp) (fun _ _ => PV.mono hq), trivial⟩
def K_X7_readRest_55 (s : ST) (a1 : Int) (Q : ST → Prop) : Prop := bx <| RA s → R32 a1 → q_K mX7_readRest (qs layX s) 0 0 55 [(0, .ref 46), (1, .int (Int32.ofInt a1))] [] (q_fin mX7_readRest (PV layX Q))
def K_X7_readRest_41 (s : ST) (a1 : Int) (a2 : Int) (Q : ST → Prop) : Prop := bx <| RA s → R32 a1 → R32 a2 → q_K mX7_readRest (qs layX s) 0 0 41 [(0, .ref 46), (1, .int (Int32.ofInt a1)), (2, .int (Int32.ofInt a2))] [] (q_fin mX7_readRest (PV layX Q))
set_option maxRecDepth 20000 in
theorem s_X7_readRest_55 {s : ST} {a1 : Int} {Q : ST → Prop} (h : RA s → R32 a1 → (C_X7_readBound s a1 (fun s1 => Q s1))) : K_X7_readRest_55 s a1 Q := by
  refine ⟨?_, trivial⟩
  intro hA hra1
  have h := h hA hra1
  refine q_aload_n eX7_readRest_55 rfl ?_
  refine q_iload_n eX7_readRest_56 rfl ?_
  refine q_V1 (ci := 7) (n := 0) eX7_readRest_57 DX7_readBound lX7_159 rfl (by decide) rfl rfl rfl rfl (h.1 hA hra1) ?_
  rintro _ _ ⟨s1, rfl, hA1, rfl, h⟩
  refine q_goto (tgt := 74) eX7_readRest_60 (by decide) ?_
  exact q_ret eX7_readRest_74 rfl ⟨_, rfl, hA1, rfl, h⟩
set_option maxRecDepth 20000 in
theorem s_X7_readRest_41 {s : ST} {a1 : Int} {a2 : Int} {Q : ST → Prop} (h : RA s → R32 a1 → R32 a2 → (C_X7_readToken s (fun s1 => ((a2 = 3 → K_X7_readRest_55 s1 a1 Q) ∧ (¬ a2 = 3 → ((¬ a2 = 4 → ((¬ a2 = 16 → Q s1) ∧ (a2 = 16 → (C_X7_readKinds s1 a1 (fun s2 => Q s2))))) ∧ (a2 = 4 → K_X7_readRest_55 s1 a1 Q))))))) : K_X7_readRest_41 s a1 a2 Q := by
  refine ⟨?_, trivial⟩
  intro hA hra1 hra2
  have h := h hA hra1 hra2
  refine q_aload_n eX7_readRest_41 rfl ?_
  refine q_V0 (ci := 7) (n := 0) eX7_readRest_42 DX7_readToken lX7_66 rfl (by decide) rfl rfl rfl rfl (h.1 hA) ?_
  rintro _ _ ⟨s1, rfl, hA1, rfl, h⟩
  refine q_iload_n eX7_readRest_45 rfl ?_
  refine q_ic (v := Int32.ofInt 3) eX7_readRest_46 rfl ?_
  refine q_cz_eq (tgt := 55) (a := a2) (b := 3) eX7_readRest_47 (by decide) (ofz hra2) (ofz (r32l rfl)) (fun c47 => ?_) (fun c47 => ?_)
  · have h := h.1 c47
    exact q_subL rfl (h.1 hA1 hra1)
  · have h := h.2 c47
    refine q_iload_n eX7_readRest_50 rfl ?_
    refine q_ic (v := Int32.ofInt 4) eX7_readRest_51 rfl ?_
    refine q_cz_ne (tgt := 63) (a := a2) (b := 4) eX7_readRest_52 (by decide) (ofz hra2) (ofz (r32l rfl)) (fun c52 => ?_) (fun c52 => ?_)
    · have h := h.1 c52
      refine q_iload_n eX7_readRest_63 rfl ?_
      refine q_bi (v := Int32.ofInt 16) eX7_readRest_64 rfl ?_
      refine q_cz_ne (tgt := 74) (a := a2) (b := 16) eX7_readRest_66 (by decide) (ofz hra2) (ofz (r32l rfl)) (fun c66 => ?_) (fun c66 => ?_)
      · have h := h.1 c66
        exact q_ret eX7_readRest_74 rfl ⟨_, rfl, hA1, rfl, h⟩
      · have h := h.2 c66
        refine q_aload_n eX7_readRest_69 rfl ?_
        refine q_iload_n eX7_readRest_70 rfl ?_
        refine q_V1 (ci := 7) (n := 0) eX7_readRest_71 DX7_readKinds lX7_162 rfl (by decide) rfl rfl rfl rfl (h.1 hA1 hra1) ?_
        rintro _ _ ⟨s2, rfl, hA2, rfl, h⟩
        exact q_ret eX7_readRest_74 rfl ⟨_, rfl, hA2, rfl, h⟩
    · have h := h.2 c52
      exact q_subL rfl (h.1 hA1 hra1)
set_option maxRecDepth 20000 in
theorem s_X7_readRest {s : ST} {p : Int} {Q : ST → Prop} (h : RA s → R32 p → (((¬ p < 0 ∧ (¬ s.1 18 1 ≤ p ∧ ¬ 40 ≤ p)) → (((0 : Int) ≤ p ∧ p < 40) ∧ ((¬ s.1 21 p = 2 → K_X7_readRest_41 s p (s.1 21 p) Q) ∧ (s.1 21 p = 2 → (C_X7_findTarget s p (fun s3 v3 => (v3 = 0 ∨ v3 = 1) → ((¬ v3 = 0 → K_X7_readRest_41 s3 p (s.1 21 p) Q) ∧ (v3 = 0 → (C_X7_faultIs s3 4 (fun s4 => Q s4)))))))))) ∧ (¬ (¬ p < 0 ∧ (¬ s.1 18 1 ≤ p ∧ ¬ 40 ≤ p)) → Q s))) : C_X7_readRest s p Q := by
  refine ⟨?_, trivial⟩
  intro hA hrp
  have h := h hA hrp
  refine q_enter (by decide) (Nat.le_of_ble_eq_true rfl) ?_
  refine q_aload_n eX7_readRest_0 rfl ?_
  refine q_getR (c := 7) (n := 0) (k := 10) (a := 18) eX7_readRest_1 rfl (by decide) (by decide) fX7_33 rfl rfl ?_
  refine q_iload_n eX7_readRest_4 rfl ?_
  refine q_V1 (ci := 9) (n := 0) eX7_readRest_5 DX9_has lX7_122 rfl (by decide) rfl rfl rfl rfl (p_X9_has (by decide) hA hrp) ?_
  rintro _ _ ⟨b1, rfl, rfl⟩
  refine q_iz_ne (tgt := 12) (a := (F_X9_has 18 s p)) eX7_readRest_8 (by decide) (ofz (r01 b1)) (fun c8 => ?_) (fun c8 => ?_)
  · have h := h.1 (n_X9_has.mp c8)
    refine q_aload_n eX7_readRest_12 rfl ?_
    refine q_getR (c := 7) (n := 0) (k := 10) (a := 18) eX7_readRest_13 rfl (by decide) (by decide) fX7_33 rfl rfl ?_
    refine q_getR (c := 9) (n := 0) (k := 5) (a := 21) eX7_readRest_16 rfl (by decide) (by decide) fX7_128 rfl rfl ?_
    refine q_iload_n eX7_readRest_19 rfl ?_
    have f2 := h.1
    have h := h.2
    refine z_iald (n := 40) eX7_readRest_20 rfl (ofz hrp) f2 ?_
    refine q_topI (v := Int32.ofInt (s.1 21 p)) rfl ?_
    refine q_istore_n eX7_readRest_21 (Nat.le_of_ble_eq_true rfl) ?_
    refine q_iload_n eX7_readRest_22 rfl ?_
    refine q_ic (v := Int32.ofInt 2) eX7_readRest_23 rfl ?_
    refine q_cz_ne (tgt := 41) (a := s.1 21 p) (b := 2) eX7_readRest_24 (by decide) (ofz (hA _ _)) (ofz (r32l rfl)) (fun c24 => ?_) (fun c24 => ?_)
    · have h := h.1 c24
      exact q_subL rfl (h.1 hA hrp (hA _ _))
    · have h := h.2 c24
      refine q_aload_n eX7_readRest_27 rfl ?_
      refine q_iload_n eX7_readRest_28 rfl ?_
      refine q_V1 (ci := 7) (n := 0) eX7_readRest_29 DX7_findTarget lX7_156 rfl (by decide) rfl rfl rfl rfl (h.1 hA hrp) ?_
      rintro _ _ ⟨s3, v3, rfl, hA3, b3, rfl, h⟩
      have h := h b3
      refine q_iz_ne (tgt := 41) (a := v3) eX7_readRest_32 (by decide) (ofz (r01 b3)) (fun c32 => ?_) (fun c32 => ?_)
      · have h := h.1 c32
        exact q_subL rfl (h.1 hA3 hrp (hA _ _))
      · have h := h.2 c32
        refine q_aload_n eX7_readRest_35 rfl ?_
        refine q_ic (v := Int32.ofInt 4) eX7_readRest_36 rfl ?_
        refine q_V1 (ci := 7) (n := 0) eX7_readRest_37 DX7_faultIs lX7_84 rfl (by decide) rfl rfl rfl rfl (h.1 hA3 (r32l rfl)) ?_
        rintro _ _ ⟨s4, rfl, hA4, rfl, h⟩
        exact q_ret eX7_readRest_40 rfl ⟨_, rfl, hA4, rfl, h⟩
  · have h := h.2 (fun q => n_X9_has.mpr q c8)
    exact q_ret eX7_readRest_11 rfl ⟨_, rfl, hA, rfl, h⟩
theorem eX7_readIn_0 : decode cX7_readIn 0 = .ok (.aload_n 0, 1) := by decide +kernel
theorem eX7_readIn_1 : decode cX7_readIn 1 = .ok (.bipush 23, 2) := by decide +kernel
theorem eX7_readIn_3 : decode cX7_readIn 3 = .ok (.invokevirtual 91, 3) := by decide +kernel
theorem eX7_readIn_6 : decode cX7_readIn 6 = .ok (.ifCond .ne 9, 3) := by decide +kernel
theorem eX7_readIn_9 : decode cX7_readIn 9 = .ok (.aload_n 0, 1) := by decide +kernel
theorem eX7_readIn_10 : decode cX7_readIn 10 = .ok (.invokevirtual 98, 3) := by decide +kernel
theorem eX7_readIn_13 : decode cX7_readIn 13 = .ok (.iconst 0, 1) := by decide +kernel
theorem eX7_readIn_14 : decode cX7_readIn 14 = .ok (.ireturn, 1) := by decide +kernel
theorem eX7_readIn_15 : decode cX7_readIn 15 = .ok (.aload_n 0, 1) := by decide +kernel
theorem eX7_readIn_16 : decode cX7_readIn 16 = .ok (.invokevirtual 66, 3) := by decide +kernel
theorem eX7_readIn_19 : decode cX7_readIn 19 = .ok (.iconst 1, 1) := by decide +kernel
theorem eX7_readIn_20 : decode cX7_readIn 20 = .ok (.ireturn, 1) := by decide +kernel
def C_X7_readIn (s : ST) (Q : ST → Int → Prop) : Prop := bx <| RA s → q_met mX7_readIn (qs layX s) [.ref 46] (PB layX Q)
theorem C_X7_readIn.mono {s : ST} {Q Q' : ST → Int → Prop} (h : C_X7_readIn s Q) (hq : ∀ s v, Q s v → Q' s v) : C_X7_readIn s Q' := ⟨fun hA => q_met.mono (h.1 hA) (fun _ _ => PB.mono hq), trivial⟩
set_option maxRecDepth 20000 in
theorem s_X7_readIn {s : ST} {Q : ST → Int → Prop} (h : RA s → (((s.1 46 5 = 1 ∧ s.1 46 9 = 23) → (C_X7_readToken s (fun s2 => Q s2 1))) ∧ (¬ (s.1 46 5 = 1 ∧ s.1 46 9 = 23) → (C_X7_refuseToken s (fun s3 => Q s3 0))))) : C_X7_readIn s Q := by
  refine ⟨?_, trivial⟩
  intro hA
  have h := h hA
  refine q_enter (by decide) (Nat.le_of_ble_eq_true rfl) ?_
  refine q_aload_n eX7_readIn_0 rfl ?_
  refine q_bi (v := Int32.ofInt 23) eX7_readIn_1 rfl ?_
  refine q_V1 (ci := 7) (n := 0) eX7_readIn_3 DX7_isOwn lX7_91 rfl (by decide) rfl rfl rfl rfl (p_X7_isOwn hA (r32l rfl)) ?_
  rintro _ _ ⟨b1, rfl, rfl⟩
  refine q_iz_ne (tgt := 15) (a := (F_X7_isOwn s 23)) eX7_readIn_6 (by decide) (ofz (r01 b1)) (fun c6 => ?_) (fun c6 => ?_)
  · have h := h.1 (n_X7_isOwn.mp c6)
    refine q_aload_n eX7_readIn_15 rfl ?_
    refine q_V0 (ci := 7) (n := 0) eX7_readIn_16 DX7_readToken lX7_66 rfl (by decide) rfl rfl rfl rfl (h.1 hA) ?_
    rintro _ _ ⟨s2, rfl, hA2, rfl, h⟩
    refine q_ic (v := Int32.ofInt 1) eX7_readIn_19 rfl ?_
    exact q_zret eX7_readIn_20 rfl (z01 (Or.inr rfl)) ⟨_, _, rfl, hA2, (Or.inr rfl), rfl, h⟩
  · have h := h.2 (fun q => n_X7_isOwn.mpr q c6)
    refine q_aload_n eX7_readIn_9 rfl ?_
    refine q_V0 (ci := 7) (n := 0) eX7_readIn_10 DX7_refuseToken lX7_98 rfl (by decide) rfl rfl rfl rfl (h.1 hA) ?_
    rintro _ _ ⟨s3, rfl, hA3, rfl, h⟩
    refine q_ic (v := Int32.ofInt 0) eX7_readIn_13 rfl ?_
    exact q_zret eX7_readIn_14 rfl (z01 (Or.inl rfl)) ⟨_, _, rfl, hA3, (Or.inl rfl), rfl, h⟩
theorem eX7_nextWaiting_0 : decode cX7_nextWaiting 0 = .ok (.iload_n 1, 1) := by decide +kernel
theorem eX7_nextWaiting_1 : decode cX7_nextWaiting 1 = .ok (.istore_n 2, 1) := by decide +kernel
theorem eX7_nextWaiting_2 : decode cX7_nextWaiting 2 = .ok (.iconst 0, 1) := by decide +kernel
theorem eX7_nextWaiting_3 : decode cX7_nextWaiting 3 = .ok (.istore_n 3, 1) := by decide +kernel
theorem eX7_nextWaiting_4 : decode cX7_nextWaiting 4 = .ok (.iload_n 3, 1) := by decide +kernel
theorem eX7_nextWaiting_5 : decode cX7_nextWaiting 5 = .ok (.bipush 40, 2) := by decide +kernel
theorem eX7_nextWaiting_7 : decode cX7_nextWaiting 7 = .ok (.if_icmp .gt 94, 3) := by decide +kernel
theorem eX7_nextWaiting_10 : decode cX7_nextWaiting 10 = .ok (.aload_n 0, 1) := by decide +kernel
theorem eX7_nextWaiting_11 : decode cX7_nextWaiting 11 = .ok (.getfield 33, 3) := by decide +kernel
theorem eX7_nextWaiting_14 : decode cX7_nextWaiting 14 = .ok (.iload_n 2, 1) := by decide +kernel
theorem eX7_nextWaiting_15 : decode cX7_nextWaiting 15 = .ok (.invokevirtual 122, 3) := by decide +kernel
theorem eX7_nextWaiting_18 : decode cX7_nextWaiting 18 = .ok (.ifCond .eq 83, 3) := by decide +kernel
theorem eX7_nextWaiting_21 : decode cX7_nextWaiting 21 = .ok (.aload_n 0, 1) := by decide +kernel
theorem eX7_nextWaiting_22 : decode cX7_nextWaiting 22 = .ok (.getfield 19, 3) := by decide +kernel
theorem eX7_nextWaiting_25 : decode cX7_nextWaiting 25 = .ok (.iload_n 2, 1) := by decide +kernel
theorem eX7_nextWaiting_26 : decode cX7_nextWaiting 26 = .ok (.iaload, 1) := by decide +kernel
theorem eX7_nextWaiting_27 : decode cX7_nextWaiting 27 = .ok (.aload_n 0, 1) := by decide +kernel
theorem eX7_nextWaiting_28 : decode cX7_nextWaiting 28 = .ok (.getfield 33, 3) := by decide +kernel
theorem eX7_nextWaiting_31 : decode cX7_nextWaiting 31 = .ok (.iload_n 2, 1) := by decide +kernel
theorem eX7_nextWaiting_32 : decode cX7_nextWaiting 32 = .ok (.invokevirtual 125, 3) := by decide +kernel
theorem eX7_nextWaiting_35 : decode cX7_nextWaiting 35 = .ok (.if_icmp .ge 51, 3) := by decide +kernel
theorem eX7_nextWaiting_38 : decode cX7_nextWaiting 38 = .ok (.aload_n 0, 1) := by decide +kernel
theorem eX7_nextWaiting_39 : decode cX7_nextWaiting 39 = .ok (.getfield 33, 3) := by decide +kernel
theorem eX7_nextWaiting_42 : decode cX7_nextWaiting 42 = .ok (.getfield 128, 3) := by decide +kernel
theorem eX7_nextWaiting_45 : decode cX7_nextWaiting 45 = .ok (.iload_n 2, 1) := by decide +kernel
theorem eX7_nextWaiting_46 : decode cX7_nextWaiting 46 = .ok (.iaload, 1) := by decide +kernel
theorem eX7_nextWaiting_47 : decode cX7_nextWaiting 47 = .ok (.iconst 4, 1) := by decide +kernel
theorem eX7_nextWaiting_48 : decode cX7_nextWaiting 48 = .ok (.if_icmp .ne 20, 3) := by decide +kernel
theorem eX7_nextWaiting_51 : decode cX7_nextWaiting 51 = .ok (.aload_n 0, 1) := by decide +kernel
theorem eX7_nextWaiting_52 : decode cX7_nextWaiting 52 = .ok (.getfield 19, 3) := by decide +kernel
theorem eX7_nextWaiting_55 : decode cX7_nextWaiting 55 = .ok (.iload_n 2, 1) := by decide +kernel
theorem eX7_nextWaiting_56 : decode cX7_nextWaiting 56 = .ok (.iaload, 1) := by decide +kernel
theorem eX7_nextWaiting_57 : decode cX7_nextWaiting 57 = .ok (.iconst 1, 1) := by decide +kernel
theorem eX7_nextWaiting_58 : decode cX7_nextWaiting 58 = .ok (.if_icmp .ne 10, 3) := by decide +kernel
theorem eX7_nextWaiting_61 : decode cX7_nextWaiting 61 = .ok (.aload_n 0, 1) := by decide +kernel
theorem eX7_nextWaiting_62 : decode cX7_nextWaiting 62 = .ok (.invokevirtual 131, 3) := by decide +kernel
theorem eX7_nextWaiting_65 : decode cX7_nextWaiting 65 = .ok (.ifCond .eq 7, 3) := by decide +kernel
theorem eX7_nextWaiting_68 : decode cX7_nextWaiting 68 = .ok (.iconst 1, 1) := by decide +kernel
theorem eX7_nextWaiting_69 : decode cX7_nextWaiting 69 = .ok (.goto 4, 3) := by decide +kernel
theorem eX7_nextWaiting_72 : decode cX7_nextWaiting 72 = .ok (.iconst 0, 1) := by decide +kernel
theorem eX7_nextWaiting_73 : decode cX7_nextWaiting 73 = .ok (.istore 4, 2) := by decide +kernel
theorem eX7_nextWaiting_75 : decode cX7_nextWaiting 75 = .ok (.iload 4, 2) := by decide +kernel
theorem eX7_nextWaiting_77 : decode cX7_nextWaiting 77 = .ok (.ifCond .eq 7, 3) := by decide +kernel
theorem eX7_nextWaiting_80 : decode cX7_nextWaiting 80 = .ok (.iload_n 2, 1) := by decide +kernel
theorem eX7_nextWaiting_81 : decode cX7_nextWaiting 81 = .ok (.goto 4, 3) := by decide +kernel
theorem eX7_nextWaiting_84 : decode cX7_nextWaiting 84 = .ok (.iconst (-1), 1) := by decide +kernel
theorem eX7_nextWaiting_85 : decode cX7_nextWaiting 85 = .ok (.ireturn, 1) := by decide +kernel
theorem eX7_nextWaiting_86 : decode cX7_nextWaiting 86 = .ok (.aload_n 0, 1) := by decide +kernel
theorem eX7_nextWaiting_87 : decode cX7_nextWaiting 87 = .ok (.getfield 33, 3) := by decide +kernel
theorem eX7_nextWaiting_90 : decode cX7_nextWaiting 90 = .ok (.iload_n 2, 1) := by decide +kernel
theorem eX7_nextWaiting_91 : decode cX7_nextWaiting 91 = .ok (.invokevirtual 134, 3) := by decide +kernel
theorem eX7_nextWaiting_94 : decode cX7_nextWaiting 94 = .ok (.istore_n 2, 1) := by decide +kernel
theorem eX7_nextWaiting_95 : decode cX7_nextWaiting 95 = .ok (.iinc 3 1, 3) := by decide +kernel
theorem eX7_nextWaiting_98 : decode cX7_nextWaiting 98 = .ok (.goto (-94), 3) := by decide +kernel
theorem eX7_nextWaiting_101 : decode cX7_nextWaiting 101 = .ok (.iconst (-1), 1) := by decide +kernel
theorem eX7_nextWaiting_102 : decode cX7_nextWaiting 102 = .ok (.ireturn, 1) := by decide +kernel
def C_X7_nextWaiting (s : ST) (p : Int) (Q : ST → Int → Prop) : Prop := bx <| RA s → R32 p → q_met mX7_nextWaiting (qs layX s) [.ref 46, .int (Int32.ofInt p)] (PI layX Q)
theorem C_X7_nextWaiting.mono {s : ST} {p : Int} {Q Q' : ST → Int → Prop} (h : C_X7_nextWaiting s p Q) (hq : ∀ s v, Q s v → Q' s v) : C_X7_nextWaiting s p Q' := ⟨fun hA hrp => q_met.mono (h.1 hA hrp) (fun _ _ => PI.mono hq), trivial⟩
def K_X7_nextWaiting_73 (s : ST) (a2 : Int) (t0 : Int) (Q : ST → Int → Prop) : Prop := bx <| RA s → R32 a2 → R32 t0 → q_K mX7_nextWaiting (qs layX s) 0 0 73 [(2, .int (Int32.ofInt a2))] [.int (Int32.ofInt t0)] (q_fin mX7_nextWaiting (PI layX Q))
def K_X7_nextWaiting_68 (s : ST) (a2 : Int) (Q : ST → Int → Prop) : Prop := bx <| RA s → R32 a2 → q_K mX7_nextWaiting (qs layX s) 0 0 68 [(2, .int (Int32.ofInt a2))] [] (q_fin mX7_nextWaiting (PI layX Q))
def K_X7_nextWaiting_4 (s : ST) (a2 : Int) (a3 : Int) (Q : ST → Int → Prop) : Prop := bx <| RA s → R32 a2 → R32 a3 → q_K mX7_nextWaiting (qs layX s) 0 0 4 [(0, .ref 46), (2, .int (Int32.ofInt a2)), (3, .int (Int32.ofInt a3))] [] (q_fin mX7_nextWaiting (PI layX Q))
set_option maxRecDepth 20000 in
theorem s_X7_nextWaiting_73 {s : ST} {a2 : Int} {t0 : Int} {Q : ST → Int → Prop} (h : RA s → R32 a2 → R32 t0 → ((t0 = 0 → Q s (-1)) ∧ (¬ t0 = 0 → Q s a2))) : K_X7_nextWaiting_73 s a2 t0 Q := by
  refine ⟨?_, trivial⟩
  intro hA hra2 hrt0
  have h := h hA hra2 hrt0
  refine q_istore eX7_nextWaiting_73 (Nat.le_of_ble_eq_true rfl) ?_
  refine q_iload eX7_nextWaiting_75 rfl ?_
  refine q_iz_eq (tgt := 84) (a := t0) eX7_nextWaiting_77 (by decide) (ofz hrt0) (fun c77 => ?_) (fun c77 => ?_)
  · have h := h.1 c77
    refine q_ic (v := Int32.ofInt (-1)) eX7_nextWaiting_84 rfl ?_
    exact q_iret eX7_nextWaiting_85 rfl ⟨_, _, rfl, hA, (r32l rfl), rfl, h⟩
  · have h := h.2 c77
    refine q_iload_n eX7_nextWaiting_80 rfl ?_
    refine q_goto (tgt := 85) eX7_nextWaiting_81 (by decide) ?_
    exact q_iret eX7_nextWaiting_85 rfl ⟨_, _, rfl, hA, hra2, rfl, h⟩
set_option maxRecDepth 20000 in
theorem s_X7_nextWaiting_68 {s : ST} {a2 : Int} {Q : ST → Int → Prop} (h : RA s → R32 a2 → K_X7_nextWaiting_73 s a2 1 Q) : K_X7_nextWaiting_68 s a2 Q := by
  refine ⟨?_, trivial⟩
  intro hA hra2
  have h := h hA hra2
  refine q_ic (v := Int32.ofInt 1) eX7_nextWaiting_68 rfl ?_
  refine q_goto (tgt := 73) eX7_nextWaiting_69 (by decide) ?_
  exact q_subL rfl (h.1 hA hra2 (r32l rfl))
set_option maxRecDepth 20000 in
theorem s_X7_nextWaiting_4 {s : ST} {a2 : Int} {a3 : Int} {Q : ST → Int → Prop} (h : RA s → R32 a2 → R32 a3 → ((40 < a3 → Q s (-1)) ∧ (¬ 40 < a3 → ((¬ (¬ a2 < 0 ∧ (¬ s.1 18 1 ≤ a2 ∧ ¬ 40 ≤ a2)) → Q s (-1)) ∧ ((¬ a2 < 0 ∧ (¬ s.1 18 1 ≤ a2 ∧ ¬ 40 ≤ a2)) → (((0 : Int) ≤ a2 ∧ a2 < 40) ∧ (P_X9_arityOf 18 s a2 ∧ (((F_X9_arityOf 18 s a2) ≤ s.1 48 a2 → (P_X9_parentOf 18 s a2 ∧ (R32 (a3 + 1) ∧ K_X7_nextWaiting_4 s (F_X9_parentOf 18 s a2) (a3 + 1) Q))) ∧ (¬ (F_X9_arityOf 18 s a2) ≤ s.1 48 a2 → ((¬ s.1 21 a2 = 4 → K_X7_nextWaiting_68 s a2 Q) ∧ (s.1 21 a2 = 4 → ((¬ s.1 48 a2 = 1 → K_X7_nextWaiting_68 s a2 Q) ∧ (s.1 48 a2 = 1 → (C_X7_readIn s (fun s8 v8 => (v8 = 0 ∨ v8 = 1) → ((v8 = 0 → K_X7_nextWaiting_73 s8 a2 0 Q) ∧ (¬ v8 = 0 → K_X7_nextWaiting_68 s8 a2 Q))))))))))))))))) : K_X7_nextWaiting_4 s a2 a3 Q := by
  refine ⟨?_, trivial⟩
  intro hA hra2 hra3
  have h := h hA hra2 hra3
  refine q_iload_n eX7_nextWaiting_4 rfl ?_
  refine q_bi (v := Int32.ofInt 40) eX7_nextWaiting_5 rfl ?_
  refine q_cz_gt (tgt := 101) (a := a3) (b := 40) eX7_nextWaiting_7 (by decide) (ofz hra3) (ofz (r32l rfl)) (fun c7 => ?_) (fun c7 => ?_)
  · have h := h.1 c7
    refine q_ic (v := Int32.ofInt (-1)) eX7_nextWaiting_101 rfl ?_
    exact q_iret eX7_nextWaiting_102 rfl ⟨_, _, rfl, hA, (r32l rfl), rfl, h⟩
  · have h := h.2 c7
    refine q_aload_n eX7_nextWaiting_10 rfl ?_
    refine q_getR (c := 7) (n := 0) (k := 10) (a := 18) eX7_nextWaiting_11 rfl (by decide) (by decide) fX7_33 rfl rfl ?_
    refine q_iload_n eX7_nextWaiting_14 rfl ?_
    refine q_V1 (ci := 9) (n := 0) eX7_nextWaiting_15 DX9_has lX7_122 rfl (by decide) rfl rfl rfl rfl (p_X9_has (by decide) hA hra2) ?_
    rintro _ _ ⟨b1, rfl, rfl⟩
    refine q_iz_eq (tgt := 101) (a := (F_X9_has 18 s a2)) eX7_nextWaiting_18 (by decide) (ofz (r01 b1)) (fun c18 => ?_) (fun c18 => ?_)
    · have h := h.1 (fun q => n_X9_has.mpr q c18)
      refine q_ic (v := Int32.ofInt (-1)) eX7_nextWaiting_101 rfl ?_
      exact q_iret eX7_nextWaiting_102 rfl ⟨_, _, rfl, hA, (r32l rfl), rfl, h⟩
    · have h := h.2 (n_X9_has.mp c18)
      refine q_aload_n eX7_nextWaiting_21 rfl ?_
      refine q_getR (c := 7) (n := 0) (k := 12) (a := 48) eX7_nextWaiting_22 rfl (by decide) (by decide) fX7_19 rfl rfl ?_
      refine q_iload_n eX7_nextWaiting_25 rfl ?_
      have f2 := h.1
      have h := h.2
      refine z_iald (n := 40) eX7_nextWaiting_26 rfl (ofz hra2) f2 ?_
      refine q_topI (v := Int32.ofInt (s.1 48 a2)) rfl ?_
      refine q_aload_n eX7_nextWaiting_27 rfl ?_
      refine q_getR (c := 7) (n := 0) (k := 10) (a := 18) eX7_nextWaiting_28 rfl (by decide) (by decide) fX7_33 rfl rfl ?_
      refine q_iload_n eX7_nextWaiting_31 rfl ?_
      have f4 := h.1
      have h := h.2
      refine q_V1 (ci := 9) (n := 0) eX7_nextWaiting_32 DX9_arityOf lX7_125 rfl (by decide) rfl rfl rfl rfl (p_X9_arityOf f4 (by decide) hA hra2) ?_
      rintro _ _ ⟨r3, rfl, rfl⟩
      refine q_cz_ge (tgt := 86) (a := s.1 48 a2) (b := (F_X9_arityOf 18 s a2)) eX7_nextWaiting_35 (by decide) (ofz (hA _ _)) (ofz r3) (fun c35 => ?_) (fun c35 => ?_)
      · have h := h.1 c35
        refine q_aload_n eX7_nextWaiting_86 rfl ?_
        refine q_getR (c := 7) (n := 0) (k := 10) (a := 18) eX7_nextWaiting_87 rfl (by decide) (by decide) fX7_33 rfl rfl ?_
        refine q_iload_n eX7_nextWaiting_90 rfl ?_
        have f6 := h.1
        have h := h.2
        refine q_V1 (ci := 9) (n := 0) eX7_nextWaiting_91 DX9_parentOf lX7_134 rfl (by decide) rfl rfl rfl rfl (p_X9_parentOf f6 (by decide) hA hra2) ?_
        rintro _ _ ⟨r5, rfl, rfl⟩
        refine q_istore_n eX7_nextWaiting_94 (Nat.le_of_ble_eq_true rfl) ?_
        have r7 := h.1
        have h := h.2
        refine z_inc (m := 1) eX7_nextWaiting_95 rfl (Nat.le_of_ble_eq_true rfl) rfl ?_
        refine q_goto (tgt := 4) eX7_nextWaiting_98 (by decide) ?_
        exact q_subL rfl (h.1 hA r5 r7)
      · have h := h.2 c35
        refine q_aload_n eX7_nextWaiting_38 rfl ?_
        refine q_getR (c := 7) (n := 0) (k := 10) (a := 18) eX7_nextWaiting_39 rfl (by decide) (by decide) fX7_33 rfl rfl ?_
        refine q_getR (c := 9) (n := 0) (k := 5) (a := 21) eX7_nextWaiting_42 rfl (by decide) (by decide) fX7_128 rfl rfl ?_
        refine q_iload_n eX7_nextWaiting_45 rfl ?_
        refine z_iald (n := 40) eX7_nextWaiting_46 rfl (ofz hra2) f2 ?_
        refine q_topI (v := Int32.ofInt (s.1 21 a2)) rfl ?_
        refine q_ic (v := Int32.ofInt 4) eX7_nextWaiting_47 rfl ?_
        refine q_cz_ne (tgt := 68) (a := s.1 21 a2) (b := 4) eX7_nextWaiting_48 (by decide) (ofz (hA _ _)) (ofz (r32l rfl)) (fun c48 => ?_) (fun c48 => ?_)
        · have h := h.1 c48
          exact q_subL rfl (h.1 hA hra2)
        · have h := h.2 c48
          refine q_aload_n eX7_nextWaiting_51 rfl ?_
          refine q_getR (c := 7) (n := 0) (k := 12) (a := 48) eX7_nextWaiting_52 rfl (by decide) (by decide) fX7_19 rfl rfl ?_
          refine q_iload_n eX7_nextWaiting_55 rfl ?_
          refine z_iald (n := 40) eX7_nextWaiting_56 rfl (ofz hra2) f2 ?_
          refine q_topI (v := Int32.ofInt (s.1 48 a2)) rfl ?_
          refine q_ic (v := Int32.ofInt 1) eX7_nextWaiting_57 rfl ?_
          refine q_cz_ne (tgt := 68) (a := s.1 48 a2) (b := 1) eX7_nextWaiting_58 (by decide) (ofz (hA _ _)) (ofz (r32l rfl)) (fun c58 => ?_) (fun c58 => ?_)
          · have h := h.1 c58
            exact q_subL rfl (h.1 hA hra2)
          · have h := h.2 c58
            refine q_aload_n eX7_nextWaiting_61 rfl ?_
            refine q_V0 (ci := 7) (n := 0) eX7_nextWaiting_62 DX7_readIn lX7_131 rfl (by decide) rfl rfl rfl rfl (h.1 hA) ?_
            rintro _ _ ⟨s8, v8, rfl, hA8, b8, rfl, h⟩
            have h := h b8
            refine q_iz_eq (tgt := 72) (a := v8) eX7_nextWaiting_65 (by decide) (ofz (r01 b8)) (fun c65 => ?_) (fun c65 => ?_)
            · have h := h.1 c65
              refine q_ic (v := Int32.ofInt 0) eX7_nextWaiting_72 rfl ?_
              exact q_subL rfl (h.1 hA8 hra2 (r32l rfl))
            · have h := h.2 c65
              exact q_subL rfl (h.1 hA8 hra2)
set_option maxRecDepth 20000 in
theorem s_X7_nextWaiting {s : ST} {p : Int} {Q : ST → Int → Prop} (h : RA s → R32 p → K_X7_nextWaiting_4 s p 0 Q) : C_X7_nextWaiting s p Q := by
  refine ⟨?_, trivial⟩
  intro hA hrp
  have h := h hA hrp
  refine q_enter (by decide) (Nat.le_of_ble_eq_true rfl) ?_
  refine q_iload_n eX7_nextWaiting_0 rfl ?_
  refine q_istore_n eX7_nextWaiting_1 (Nat.le_of_ble_eq_true rfl) ?_
  refine q_ic (v := Int32.ofInt 0) eX7_nextWaiting_2 rfl ?_
  refine q_istore_n eX7_nextWaiting_3 (Nat.le_of_ble_eq_true rfl) ?_
  exact q_subL rfl (h.1 hA hrp (r32l rfl))
theorem eX7_readExpression_0 : decode cX7_readExpression 0 = .ok (.iconst (-1), 1) := by decide +kernel
theorem eX7_readExpression_1 : decode cX7_readExpression 1 = .ok (.istore_n 1, 1) := by decide +kernel
theorem eX7_readExpression_2 : decode cX7_readExpression 2 = .ok (.aload_n 0, 1) := by decide +kernel
theorem eX7_readExpression_3 : decode cX7_readExpression 3 = .ok (.getfield 60, 3) := by decide +kernel
theorem eX7_readExpression_6 : decode cX7_readExpression 6 = .ok (.ifCond .ne 7, 3) := by decide +kernel
theorem eX7_readExpression_9 : decode cX7_readExpression 9 = .ok (.iconst 1, 1) := by decide +kernel
theorem eX7_readExpression_10 : decode cX7_readExpression 10 = .ok (.goto 4, 3) := by decide +kernel
theorem eX7_readExpression_13 : decode cX7_readExpression 13 = .ok (.iconst 0, 1) := by decide +kernel
theorem eX7_readExpression_14 : decode cX7_readExpression 14 = .ok (.istore_n 2, 1) := by decide +kernel
theorem eX7_readExpression_15 : decode cX7_readExpression 15 = .ok (.iconst 0, 1) := by decide +kernel
theorem eX7_readExpression_16 : decode cX7_readExpression 16 = .ok (.istore_n 3, 1) := by decide +kernel
theorem eX7_readExpression_17 : decode cX7_readExpression 17 = .ok (.iload_n 3, 1) := by decide +kernel
theorem eX7_readExpression_18 : decode cX7_readExpression 18 = .ok (.bipush 40, 2) := by decide +kernel
theorem eX7_readExpression_20 : decode cX7_readExpression 20 = .ok (.if_icmp .gt 55, 3) := by decide +kernel
theorem eX7_readExpression_23 : decode cX7_readExpression 23 = .ok (.iload_n 2, 1) := by decide +kernel
theorem eX7_readExpression_24 : decode cX7_readExpression 24 = .ok (.ifCond .eq 51, 3) := by decide +kernel
theorem eX7_readExpression_27 : decode cX7_readExpression 27 = .ok (.aload_n 0, 1) := by decide +kernel
theorem eX7_readExpression_28 : decode cX7_readExpression 28 = .ok (.iload_n 1, 1) := by decide +kernel
theorem eX7_readExpression_29 : decode cX7_readExpression 29 = .ok (.invokevirtual 112, 3) := by decide +kernel
theorem eX7_readExpression_32 : decode cX7_readExpression 32 = .ok (.istore 4, 2) := by decide +kernel
theorem eX7_readExpression_34 : decode cX7_readExpression 34 = .ok (.aload_n 0, 1) := by decide +kernel
theorem eX7_readExpression_35 : decode cX7_readExpression 35 = .ok (.iload 4, 2) := by decide +kernel
theorem eX7_readExpression_37 : decode cX7_readExpression 37 = .ok (.invokevirtual 116, 3) := by decide +kernel
theorem eX7_readExpression_40 : decode cX7_readExpression 40 = .ok (.aload_n 0, 1) := by decide +kernel
theorem eX7_readExpression_41 : decode cX7_readExpression 41 = .ok (.getfield 60, 3) := by decide +kernel
theorem eX7_readExpression_44 : decode cX7_readExpression 44 = .ok (.ifCond .ne 12, 3) := by decide +kernel
theorem eX7_readExpression_47 : decode cX7_readExpression 47 = .ok (.aload_n 0, 1) := by decide +kernel
theorem eX7_readExpression_48 : decode cX7_readExpression 48 = .ok (.iload 4, 2) := by decide +kernel
theorem eX7_readExpression_50 : decode cX7_readExpression 50 = .ok (.invokevirtual 119, 3) := by decide +kernel
theorem eX7_readExpression_53 : decode cX7_readExpression 53 = .ok (.goto 4, 3) := by decide +kernel
theorem eX7_readExpression_56 : decode cX7_readExpression 56 = .ok (.iconst (-1), 1) := by decide +kernel
theorem eX7_readExpression_57 : decode cX7_readExpression 57 = .ok (.istore_n 1, 1) := by decide +kernel
theorem eX7_readExpression_58 : decode cX7_readExpression 58 = .ok (.iload_n 1, 1) := by decide +kernel
theorem eX7_readExpression_59 : decode cX7_readExpression 59 = .ok (.iconst (-1), 1) := by decide +kernel
theorem eX7_readExpression_60 : decode cX7_readExpression 60 = .ok (.if_icmp .eq 7, 3) := by decide +kernel
theorem eX7_readExpression_63 : decode cX7_readExpression 63 = .ok (.iconst 1, 1) := by decide +kernel
theorem eX7_readExpression_64 : decode cX7_readExpression 64 = .ok (.goto 4, 3) := by decide +kernel
theorem eX7_readExpression_67 : decode cX7_readExpression 67 = .ok (.iconst 0, 1) := by decide +kernel
theorem eX7_readExpression_68 : decode cX7_readExpression 68 = .ok (.istore_n 2, 1) := by decide +kernel
theorem eX7_readExpression_69 : decode cX7_readExpression 69 = .ok (.iinc 3 1, 3) := by decide +kernel
theorem eX7_readExpression_72 : decode cX7_readExpression 72 = .ok (.goto (-55), 3) := by decide +kernel
theorem eX7_readExpression_75 : decode cX7_readExpression 75 = .ok (.return_, 1) := by decide +kernel
def C_X7_readExpression (s : ST) (Q : ST → Prop) : Prop := bx <| RA s → q_met mX7_readExpression (qs layX s) [.ref 46] (PV layX Q)
theorem C_X7_readExpression.mono {s : ST} {Q Q' : ST → Prop} (h : C_X7_readExpression s Q) (hq : ∀ s, Q s → Q' s) : C_X7_readExpression s Q' := ⟨fun hA => q_met.mono (h.1 hA) (fun _ _ => PV.mono hq), trivial⟩
def K_X7_readExpression_57 (s : ST) (a3 : Int) (t0 : Int) (Q : ST → Prop) : Prop := bx <| RA s → R32 a3 → R32 t0 → q_K mX7_readExpression (qs layX s) 0 0 57 [(0, .ref 46), (3, .int (Int32.ofInt a3))] [.int (Int32.ofInt t0)] (q_fin mX7_readExpression (PV layX Q))
def K_X7_readExpression_17 (s : ST) (a1 : Int) (a2 : Int) (a3 : Int) (Q : ST → Prop) : Prop := bx <| RA s → R32 a1 → R32 a2 → R32 a3 → q_K mX7_readExpression (qs layX s) 0 0 17 [(0, .ref 46), (1, .int (Int32.ofInt a1)), (2, .int (Int32.ofInt a2)), (3, .int (Int32.ofInt a3))] [] (q_fin mX7_readExpression (PV layX Q))
set_option maxRecDepth 20000 in
theorem s_X7_readExpression_57 {s : ST} {a3 : Int} {t0 : Int} {Q : ST → Prop} (h : RA s → R32 a3 → R32 t0 → ((t0 = (-1) → (R32 (a3 + 1) ∧ K_X7_readExpression_17 s t0 0 (a3 + 1) Q)) ∧ (¬ t0 = (-1) → (R32 (a3 + 1) ∧ K_X7_readExpression_17 s t0 1 (a3 + 1) Q)))) : K_X7_readExpression_57 s a3 t0 Q := by
  refine ⟨?_, trivial⟩
  intro hA hra3 hrt0
  have h := h hA hra3 hrt0
  refine q_istore_n eX7_readExpression_57 (Nat.le_of_ble_eq_true rfl) ?_
  refine q_iload_n eX7_readExpression_58 rfl ?_
  refine q_ic (v := Int32.ofInt (-1)) eX7_readExpression_59 rfl ?_
  refine q_cz_eq (tgt := 67) (a := t0) (b := (-1)) eX7_readExpression_60 (by decide) (ofz hrt0) (ofz (r32l rfl)) (fun c60 => ?_) (fun c60 => ?_)
  · have h := h.1 c60
    refine q_ic (v := Int32.ofInt 0) eX7_readExpression_67 rfl ?_
    refine q_istore_n eX7_readExpression_68 (Nat.le_of_ble_eq_true rfl) ?_
    have r1 := h.1
    have h := h.2
    refine z_inc (m := 1) eX7_readExpression_69 rfl (Nat.le_of_ble_eq_true rfl) rfl ?_
    refine q_goto (tgt := 17) eX7_readExpression_72 (by decide) ?_
    exact q_subL rfl (h.1 hA hrt0 (r32l rfl) r1)
  · have h := h.2 c60
    refine q_ic (v := Int32.ofInt 1) eX7_readExpression_63 rfl ?_
    refine q_goto (tgt := 68) eX7_readExpression_64 (by decide) ?_
    refine q_istore_n eX7_readExpression_68 (Nat.le_of_ble_eq_true rfl) ?_
    have r2 := h.1
    have h := h.2
    refine z_inc (m := 1) eX7_readExpression_69 rfl (Nat.le_of_ble_eq_true rfl) rfl ?_
    refine q_goto (tgt := 17) eX7_readExpression_72 (by decide) ?_
    exact q_subL rfl (h.1 hA hrt0 (r32l rfl) r2)
set_option maxRecDepth 20000 in
theorem s_X7_readExpression_17 {s : ST} {a1 : Int} {a2 : Int} {a3 : Int} {Q : ST → Prop} (h : RA s → R32 a1 → R32 a2 → R32 a3 → ((40 < a3 → Q s) ∧ (¬ 40 < a3 → ((a2 = 0 → Q s) ∧ (¬ a2 = 0 → (C_X7_beginPlace s a1 (fun s1 v1 => (C_X7_readRest s1 v1 (fun s2 => ((¬ s2.1 46 0 = 0 → K_X7_readExpression_57 s2 a3 (-1) Q) ∧ (s2.1 46 0 = 0 → (C_X7_nextWaiting s2 v1 (fun s3 v3 => K_X7_readExpression_57 s3 a3 v3 Q))))))))))))) : K_X7_readExpression_17 s a1 a2 a3 Q := by
  refine ⟨?_, trivial⟩
  intro hA hra1 hra2 hra3
  have h := h hA hra1 hra2 hra3
  refine q_iload_n eX7_readExpression_17 rfl ?_
  refine q_bi (v := Int32.ofInt 40) eX7_readExpression_18 rfl ?_
  refine q_cz_gt (tgt := 75) (a := a3) (b := 40) eX7_readExpression_20 (by decide) (ofz hra3) (ofz (r32l rfl)) (fun c20 => ?_) (fun c20 => ?_)
  · have h := h.1 c20
    exact q_ret eX7_readExpression_75 rfl ⟨_, rfl, hA, rfl, h⟩
  · have h := h.2 c20
    refine q_iload_n eX7_readExpression_23 rfl ?_
    refine q_iz_eq (tgt := 75) (a := a2) eX7_readExpression_24 (by decide) (ofz hra2) (fun c24 => ?_) (fun c24 => ?_)
    · have h := h.1 c24
      exact q_ret eX7_readExpression_75 rfl ⟨_, rfl, hA, rfl, h⟩
    · have h := h.2 c24
      refine q_aload_n eX7_readExpression_27 rfl ?_
      refine q_iload_n eX7_readExpression_28 rfl ?_
      refine q_V1 (ci := 7) (n := 0) eX7_readExpression_29 DX7_beginPlace lX7_112 rfl (by decide) rfl rfl rfl rfl (h.1 hA hra1) ?_
      rintro _ _ ⟨s1, v1, rfl, hA1, r1, rfl, h⟩
      refine q_istore eX7_readExpression_32 (Nat.le_of_ble_eq_true rfl) ?_
      refine q_aload_n eX7_readExpression_34 rfl ?_
      refine q_iload eX7_readExpression_35 rfl ?_
      refine q_V1 (ci := 7) (n := 0) eX7_readExpression_37 DX7_readRest lX7_116 rfl (by decide) rfl rfl rfl rfl (h.1 hA1 r1) ?_
      rintro _ _ ⟨s2, rfl, hA2, rfl, h⟩
      refine q_aload_n eX7_readExpression_40 rfl ?_
      refine q_getf (c := 7) (n := 0) (k := 0) (v := .int (Int32.ofInt (s2.1 46 0))) eX7_readExpression_41 rfl (by decide) (by decide) fX7_60 rfl ?_
      refine q_iz_ne (tgt := 56) (a := s2.1 46 0) eX7_readExpression_44 (by decide) (ofz (hA2 _ _)) (fun c44 => ?_) (fun c44 => ?_)
      · have h := h.1 c44
        refine q_ic (v := Int32.ofInt (-1)) eX7_readExpression_56 rfl ?_
        exact q_subL rfl (h.1 hA2 hra3 (r32l rfl))
      · have h := h.2 c44
        refine q_aload_n eX7_readExpression_47 rfl ?_
        refine q_iload eX7_readExpression_48 rfl ?_
        refine q_V1 (ci := 7) (n := 0) eX7_readExpression_50 DX7_nextWaiting lX7_119 rfl (by decide) rfl rfl rfl rfl (h.1 hA2 r1) ?_
        rintro _ _ ⟨s3, v3, rfl, hA3, r3, rfl, h⟩
        refine q_goto (tgt := 57) eX7_readExpression_53 (by decide) ?_
        exact q_subL rfl (h.1 hA3 hra3 r3)
set_option maxRecDepth 20000 in
theorem s_X7_readExpression {s : ST} {Q : ST → Prop} (h : RA s → ((¬ s.1 46 0 = 0 → K_X7_readExpression_17 s (-1) 0 0 Q) ∧ (s.1 46 0 = 0 → K_X7_readExpression_17 s (-1) 1 0 Q))) : C_X7_readExpression s Q := by
  refine ⟨?_, trivial⟩
  intro hA
  have h := h hA
  refine q_enter (by decide) (Nat.le_of_ble_eq_true rfl) ?_
  refine q_ic (v := Int32.ofInt (-1)) eX7_readExpression_0 rfl ?_
  refine q_istore_n eX7_readExpression_1 (Nat.le_of_ble_eq_true rfl) ?_
  refine q_aload_n eX7_readExpression_2 rfl ?_
  refine q_getf (c := 7) (n := 0) (k := 0) (v := .int (Int32.ofInt (s.1 46 0))) eX7_readExpression_3 rfl (by decide) (by decide) fX7_60 rfl ?_
  refine q_iz_ne (tgt := 13) (a := s.1 46 0) eX7_readExpression_6 (by decide) (ofz (hA _ _)) (fun c6 => ?_) (fun c6 => ?_)
  · have h := h.1 c6
    refine q_ic (v := Int32.ofInt 0) eX7_readExpression_13 rfl ?_
    refine q_istore_n eX7_readExpression_14 (Nat.le_of_ble_eq_true rfl) ?_
    refine q_ic (v := Int32.ofInt 0) eX7_readExpression_15 rfl ?_
    refine q_istore_n eX7_readExpression_16 (Nat.le_of_ble_eq_true rfl) ?_
    exact q_subL rfl (h.1 hA (r32l rfl) (r32l rfl) (r32l rfl))
  · have h := h.2 c6
    refine q_ic (v := Int32.ofInt 1) eX7_readExpression_9 rfl ?_
    refine q_goto (tgt := 14) eX7_readExpression_10 (by decide) ?_
    refine q_istore_n eX7_readExpression_14 (Nat.le_of_ble_eq_true rfl) ?_
    refine q_ic (v := Int32.ofInt 0) eX7_readExpression_15 rfl ?_
    refine q_istore_n eX7_readExpression_16 (Nat.le_of_ble_eq_true rfl) ?_
    exact q_subL rfl (h.1 hA (r32l rfl) (r32l rfl) (r32l rfl))
theorem eX7_readSign_0 : decode cX7_readSign 0 = .ok (.aload_n 0, 1) := by decide +kernel
theorem eX7_readSign_1 : decode cX7_readSign 1 = .ok (.getfield 60, 3) := by decide +kernel
theorem eX7_readSign_4 : decode cX7_readSign 4 = .ok (.ifCond .eq 4, 3) := by decide +kernel
theorem eX7_readSign_7 : decode cX7_readSign 7 = .ok (.return_, 1) := by decide +kernel
theorem eX7_readSign_8 : decode cX7_readSign 8 = .ok (.aload_n 0, 1) := by decide +kernel
theorem eX7_readSign_9 : decode cX7_readSign 9 = .ok (.getfield 69, 3) := by decide +kernel
theorem eX7_readSign_12 : decode cX7_readSign 12 = .ok (.iconst 3, 1) := by decide +kernel
theorem eX7_readSign_13 : decode cX7_readSign 13 = .ok (.if_icmp .ne 10, 3) := by decide +kernel
theorem eX7_readSign_16 : decode cX7_readSign 16 = .ok (.aload_n 0, 1) := by decide +kernel
theorem eX7_readSign_17 : decode cX7_readSign 17 = .ok (.invokevirtual 66, 3) := by decide +kernel
theorem eX7_readSign_20 : decode cX7_readSign 20 = .ok (.goto 7, 3) := by decide +kernel
theorem eX7_readSign_23 : decode cX7_readSign 23 = .ok (.aload_n 0, 1) := by decide +kernel
theorem eX7_readSign_24 : decode cX7_readSign 24 = .ok (.invokevirtual 98, 3) := by decide +kernel
theorem eX7_readSign_27 : decode cX7_readSign 27 = .ok (.return_, 1) := by decide +kernel
def C_X7_readSign (s : ST) (Q : ST → Prop) : Prop := bx <| RA s → q_met mX7_readSign (qs layX s) [.ref 46] (PV layX Q)
theorem C_X7_readSign.mono {s : ST} {Q Q' : ST → Prop} (h : C_X7_readSign s Q) (hq : ∀ s, Q s → Q' s) : C_X7_readSign s Q' := ⟨fun hA => q_met.mono (h.1 hA) (fun _ _ => PV.mono hq), trivial⟩
set_option maxRecDepth 20000 in
theorem s_X7_readSign {s : ST} {Q : ST → Prop} (h : RA s → ((s.1 46 0 = 0 → ((¬ s.1 46 5 = 3 → (C_X7_refuseToken s (fun s1 => Q s1))) ∧ (s.1 46 5 = 3 → (C_X7_readToken s (fun s2 => Q s2))))) ∧ (¬ s.1 46 0 = 0 → Q s))) : C_X7_readSign s Q := by
  refine ⟨?_, trivial⟩
  intro hA
  have h := h hA
  refine q_enter (by decide) (Nat.le_of_ble_eq_true rfl) ?_
  refine q_aload_n eX7_readSign_0 rfl ?_
  refine q_getf (c := 7) (n := 0) (k := 0) (v := .int (Int32.ofInt (s.1 46 0))) eX7_readSign_1 rfl (by decide) (by decide) fX7_60 rfl ?_
  refine q_iz_eq (tgt := 8) (a := s.1 46 0) eX7_readSign_4 (by decide) (ofz (hA _ _)) (fun c4 => ?_) (fun c4 => ?_)
  · have h := h.1 c4
    refine q_aload_n eX7_readSign_8 rfl ?_
    refine q_getf (c := 7) (n := 0) (k := 5) (v := .int (Int32.ofInt (s.1 46 5))) eX7_readSign_9 rfl (by decide) (by decide) fX7_69 rfl ?_
    refine q_ic (v := Int32.ofInt 3) eX7_readSign_12 rfl ?_
    refine q_cz_ne (tgt := 23) (a := s.1 46 5) (b := 3) eX7_readSign_13 (by decide) (ofz (hA _ _)) (ofz (r32l rfl)) (fun c13 => ?_) (fun c13 => ?_)
    · have h := h.1 c13
      refine q_aload_n eX7_readSign_23 rfl ?_
      refine q_V0 (ci := 7) (n := 0) eX7_readSign_24 DX7_refuseToken lX7_98 rfl (by decide) rfl rfl rfl rfl (h.1 hA) ?_
      rintro _ _ ⟨s1, rfl, hA1, rfl, h⟩
      exact q_ret eX7_readSign_27 rfl ⟨_, rfl, hA1, rfl, h⟩
    · have h := h.2 c13
      refine q_aload_n eX7_readSign_16 rfl ?_
      refine q_V0 (ci := 7) (n := 0) eX7_readSign_17 DX7_readToken lX7_66 rfl (by decide) rfl rfl rfl rfl (h.1 hA) ?_
      rintro _ _ ⟨s2, rfl, hA2, rfl, h⟩
      refine q_goto (tgt := 27) eX7_readSign_20 (by decide) ?_
      exact q_ret eX7_readSign_27 rfl ⟨_, rfl, hA2, rfl, h⟩
  · have h := h.2 c4
    exact q_ret eX7_readSign_7 rfl ⟨_, rfl, hA, rfl, h⟩
theorem eX7_readText_0 : decode cX7_readText 0 = .ok (.aload_n 0, 1) := by decide +kernel
theorem eX7_readText_1 : decode cX7_readText 1 = .ok (.iload_n 1, 1) := by decide +kernel
theorem eX7_readText_2 : decode cX7_readText 2 = .ok (.putfield 53, 3) := by decide +kernel
theorem eX7_readText_5 : decode cX7_readText 5 = .ok (.aload_n 0, 1) := by decide +kernel
theorem eX7_readText_6 : decode cX7_readText 6 = .ok (.getfield 33, 3) := by decide +kernel
theorem eX7_readText_9 : decode cX7_readText 9 = .ok (.invokevirtual 55, 3) := by decide +kernel
theorem eX7_readText_12 : decode cX7_readText 12 = .ok (.aload_n 0, 1) := by decide +kernel
theorem eX7_readText_13 : decode cX7_readText 13 = .ok (.iconst 0, 1) := by decide +kernel
theorem eX7_readText_14 : decode cX7_readText 14 = .ok (.putfield 60, 3) := by decide +kernel
theorem eX7_readText_17 : decode cX7_readText 17 = .ok (.aload_n 0, 1) := by decide +kernel
theorem eX7_readText_18 : decode cX7_readText 18 = .ok (.iconst (-1), 1) := by decide +kernel
theorem eX7_readText_19 : decode cX7_readText 19 = .ok (.putfield 9, 3) := by decide +kernel
theorem eX7_readText_22 : decode cX7_readText 22 = .ok (.aload_n 0, 1) := by decide +kernel
theorem eX7_readText_23 : decode cX7_readText 23 = .ok (.iconst 0, 1) := by decide +kernel
theorem eX7_readText_24 : decode cX7_readText 24 = .ok (.putfield 63, 3) := by decide +kernel
theorem eX7_readText_27 : decode cX7_readText 27 = .ok (.aload_n 0, 1) := by decide +kernel
theorem eX7_readText_28 : decode cX7_readText 28 = .ok (.invokevirtual 66, 3) := by decide +kernel
theorem eX7_readText_31 : decode cX7_readText 31 = .ok (.iconst 0, 1) := by decide +kernel
theorem eX7_readText_32 : decode cX7_readText 32 = .ok (.istore_n 2, 1) := by decide +kernel
theorem eX7_readText_33 : decode cX7_readText 33 = .ok (.iload_n 2, 1) := by decide +kernel
theorem eX7_readText_34 : decode cX7_readText 34 = .ok (.bipush 8, 2) := by decide +kernel
theorem eX7_readText_36 : decode cX7_readText 36 = .ok (.if_icmp .gt 35, 3) := by decide +kernel
theorem eX7_readText_39 : decode cX7_readText 39 = .ok (.aload_n 0, 1) := by decide +kernel
theorem eX7_readText_40 : decode cX7_readText 40 = .ok (.getfield 60, 3) := by decide +kernel
theorem eX7_readText_43 : decode cX7_readText 43 = .ok (.ifCond .ne 28, 3) := by decide +kernel
theorem eX7_readText_46 : decode cX7_readText 46 = .ok (.aload_n 0, 1) := by decide +kernel
theorem eX7_readText_47 : decode cX7_readText 47 = .ok (.getfield 69, 3) := by decide +kernel
theorem eX7_readText_50 : decode cX7_readText 50 = .ok (.ifCond .eq 21, 3) := by decide +kernel
theorem eX7_readText_53 : decode cX7_readText 53 = .ok (.aload_n 0, 1) := by decide +kernel
theorem eX7_readText_54 : decode cX7_readText 54 = .ok (.invokevirtual 72, 3) := by decide +kernel
theorem eX7_readText_57 : decode cX7_readText 57 = .ok (.aload_n 0, 1) := by decide +kernel
theorem eX7_readText_58 : decode cX7_readText 58 = .ok (.invokevirtual 75, 3) := by decide +kernel
theorem eX7_readText_61 : decode cX7_readText 61 = .ok (.aload_n 0, 1) := by decide +kernel
theorem eX7_readText_62 : decode cX7_readText 62 = .ok (.invokevirtual 78, 3) := by decide +kernel
theorem eX7_readText_65 : decode cX7_readText 65 = .ok (.iinc 2 1, 3) := by decide +kernel
theorem eX7_readText_68 : decode cX7_readText 68 = .ok (.goto (-35), 3) := by decide +kernel
theorem eX7_readText_71 : decode cX7_readText 71 = .ok (.aload_n 0, 1) := by decide +kernel
theorem eX7_readText_72 : decode cX7_readText 72 = .ok (.getfield 60, 3) := by decide +kernel
theorem eX7_readText_75 : decode cX7_readText 75 = .ok (.ifCond .ne 7, 3) := by decide +kernel
theorem eX7_readText_78 : decode cX7_readText 78 = .ok (.iconst 1, 1) := by decide +kernel
theorem eX7_readText_79 : decode cX7_readText 79 = .ok (.goto 4, 3) := by decide +kernel
theorem eX7_readText_82 : decode cX7_readText 82 = .ok (.iconst 0, 1) := by decide +kernel
theorem eX7_readText_83 : decode cX7_readText 83 = .ok (.ireturn, 1) := by decide +kernel
def C_X7_readText (s : ST) (p : Int) (Q : ST → Int → Prop) : Prop := bx <| RA s → R32 p → q_met mX7_readText (qs layX s) [.ref 46, .int (Int32.ofInt p)] (PB layX Q)
theorem C_X7_readText.mono {s : ST} {p : Int} {Q Q' : ST → Int → Prop} (h : C_X7_readText s p Q) (hq : ∀ s v, Q s v → Q' s v) : C_X7_readText s p Q' := ⟨fun hA hrp => q_met.mono (h.1 hA hrp) (fun _ _ => PB.mono hq), trivial⟩
def K_X7_readText_71 (s : ST) (Q : ST → Int → Prop) : Prop := bx <| RA s → q_K mX7_readText (qs layX s) 0 0 71 [(0, .ref 46)] [] (q_fin mX7_readText (PB layX Q))
def K_X7_readText_33 (s : ST) (a2 : Int) (Q : ST → Int → Prop) : Prop := bx <| RA s → R32 a2 → q_K mX7_readText (qs layX s) 0 0 33 [(0, .ref 46), (2, .int (Int32.ofInt a2))] [] (q_fin mX7_readText (PB layX Q))
set_option maxRecDepth 20000 in
theorem s_X7_readText_71 {s : ST} {Q : ST → Int → Prop} (h : RA s → ((¬ s.1 46 0 = 0 → Q s 0) ∧ (s.1 46 0 = 0 → Q s 1))) : K_X7_readText_71 s Q := by
  refine ⟨?_, trivial⟩
  intro hA
  have h := h hA
  refine q_aload_n eX7_readText_71 rfl ?_
  refine q_getf (c := 7) (n := 0) (k := 0) (v := .int (Int32.ofInt (s.1 46 0))) eX7_readText_72 rfl (by decide) (by decide) fX7_60 rfl ?_
  refine q_iz_ne (tgt := 82) (a := s.1 46 0) eX7_readText_75 (by decide) (ofz (hA _ _)) (fun c75 => ?_) (fun c75 => ?_)
  · have h := h.1 c75
    refine q_ic (v := Int32.ofInt 0) eX7_readText_82 rfl ?_
    exact q_zret eX7_readText_83 rfl (z01 (Or.inl rfl)) ⟨_, _, rfl, hA, (Or.inl rfl), rfl, h⟩
  · have h := h.2 c75
    refine q_ic (v := Int32.ofInt 1) eX7_readText_78 rfl ?_
    refine q_goto (tgt := 83) eX7_readText_79 (by decide) ?_
    exact q_zret eX7_readText_83 rfl (z01 (Or.inr rfl)) ⟨_, _, rfl, hA, (Or.inr rfl), rfl, h⟩
set_option maxRecDepth 20000 in
theorem s_X7_readText_33 {s : ST} {a2 : Int} {Q : ST → Int → Prop} (h : RA s → R32 a2 → ((8 < a2 → K_X7_readText_71 s Q) ∧ (¬ 8 < a2 → ((¬ s.1 46 0 = 0 → K_X7_readText_71 s Q) ∧ (s.1 46 0 = 0 → ((s.1 46 5 = 0 → K_X7_readText_71 s Q) ∧ (¬ s.1 46 5 = 0 → (C_X7_readDef s (fun s1 => (C_X7_readExpression s1 (fun s2 => (C_X7_readSign s2 (fun s3 => (R32 (a2 + 1) ∧ K_X7_readText_33 s3 (a2 + 1) Q)))))))))))))) : K_X7_readText_33 s a2 Q := by
  refine ⟨?_, trivial⟩
  intro hA hra2
  have h := h hA hra2
  refine q_iload_n eX7_readText_33 rfl ?_
  refine q_bi (v := Int32.ofInt 8) eX7_readText_34 rfl ?_
  refine q_cz_gt (tgt := 71) (a := a2) (b := 8) eX7_readText_36 (by decide) (ofz hra2) (ofz (r32l rfl)) (fun c36 => ?_) (fun c36 => ?_)
  · have h := h.1 c36
    exact q_subL rfl (h.1 hA)
  · have h := h.2 c36
    refine q_aload_n eX7_readText_39 rfl ?_
    refine q_getf (c := 7) (n := 0) (k := 0) (v := .int (Int32.ofInt (s.1 46 0))) eX7_readText_40 rfl (by decide) (by decide) fX7_60 rfl ?_
    refine q_iz_ne (tgt := 71) (a := s.1 46 0) eX7_readText_43 (by decide) (ofz (hA _ _)) (fun c43 => ?_) (fun c43 => ?_)
    · have h := h.1 c43
      exact q_subL rfl (h.1 hA)
    · have h := h.2 c43
      refine q_aload_n eX7_readText_46 rfl ?_
      refine q_getf (c := 7) (n := 0) (k := 5) (v := .int (Int32.ofInt (s.1 46 5))) eX7_readText_47 rfl (by decide) (by decide) fX7_69 rfl ?_
      refine q_iz_eq (tgt := 71) (a := s.1 46 5) eX7_readText_50 (by decide) (ofz (hA _ _)) (fun c50 => ?_) (fun c50 => ?_)
      · have h := h.1 c50
        exact q_subL rfl (h.1 hA)
      · have h := h.2 c50
        refine q_aload_n eX7_readText_53 rfl ?_
        refine q_V0 (ci := 7) (n := 0) eX7_readText_54 DX7_readDef lX7_72 rfl (by decide) rfl rfl rfl rfl (h.1 hA) ?_
        rintro _ _ ⟨s1, rfl, hA1, rfl, h⟩
        refine q_aload_n eX7_readText_57 rfl ?_
        refine q_V0 (ci := 7) (n := 0) eX7_readText_58 DX7_readExpression lX7_75 rfl (by decide) rfl rfl rfl rfl (h.1 hA1) ?_
        rintro _ _ ⟨s2, rfl, hA2, rfl, h⟩
        refine q_aload_n eX7_readText_61 rfl ?_
        refine q_V0 (ci := 7) (n := 0) eX7_readText_62 DX7_readSign lX7_78 rfl (by decide) rfl rfl rfl rfl (h.1 hA2) ?_
        rintro _ _ ⟨s3, rfl, hA3, rfl, h⟩
        have r4 := h.1
        have h := h.2
        refine z_inc (m := 1) eX7_readText_65 rfl (Nat.le_of_ble_eq_true rfl) rfl ?_
        refine q_goto (tgt := 33) eX7_readText_68 (by decide) ?_
        exact q_subL rfl (h.1 hA3 r4)
set_option maxRecDepth 20000 in
theorem s_X7_readText {s : ST} {p : Int} {Q : ST → Int → Prop} (h : RA s → R32 p → (C_X9_clear 18 (ui s 46 3 p) (fun s1 => (C_X7_readToken (ui (ui (ui s1 46 0 0) 46 1 (-1)) 46 4 0) (fun s2 => K_X7_readText_33 s2 0 Q))))) : C_X7_readText s p Q := by
  refine ⟨?_, trivial⟩
  intro hA hrp
  have h := h hA hrp
  refine q_enter (by decide) (Nat.le_of_ble_eq_true rfl) ?_
  refine q_aload_n eX7_readText_0 rfl ?_
  refine q_iload_n eX7_readText_1 rfl ?_
  refine z_putI (c := 7) (n := 0) (k := 3) (kz := 3) eX7_readText_2 rfl (by decide) (by decide) fX7_53 rfl rfl rfl ?_
  refine q_aload_n eX7_readText_5 rfl ?_
  refine q_getR (c := 7) (n := 0) (k := 10) (a := 18) eX7_readText_6 rfl (by decide) (by decide) fX7_33 rfl rfl ?_
  refine q_V0 (ci := 9) (n := 0) eX7_readText_9 DX9_clear lX7_55 rfl (by decide) rfl rfl rfl rfl (h.1 (by decide) (ra_ui hA hrp)) ?_
  rintro _ _ ⟨s1, rfl, hA1, rfl, h⟩
  refine q_aload_n eX7_readText_12 rfl ?_
  refine q_ic (v := Int32.ofInt 0) eX7_readText_13 rfl ?_
  refine z_putI (c := 7) (n := 0) (k := 0) (kz := 0) eX7_readText_14 rfl (by decide) (by decide) fX7_60 rfl rfl rfl ?_
  refine q_aload_n eX7_readText_17 rfl ?_
  refine q_ic (v := Int32.ofInt (-1)) eX7_readText_18 rfl ?_
  refine z_putI (c := 7) (n := 0) (k := 1) (kz := 1) eX7_readText_19 rfl (by decide) (by decide) fX7_9 rfl rfl rfl ?_
  refine q_aload_n eX7_readText_22 rfl ?_
  refine q_ic (v := Int32.ofInt 0) eX7_readText_23 rfl ?_
  refine z_putI (c := 7) (n := 0) (k := 4) (kz := 4) eX7_readText_24 rfl (by decide) (by decide) fX7_63 rfl rfl rfl ?_
  refine q_aload_n eX7_readText_27 rfl ?_
  refine q_V0 (ci := 7) (n := 0) eX7_readText_28 DX7_readToken lX7_66 rfl (by decide) rfl rfl rfl rfl (h.1 (ra_ui (ra_ui (ra_ui hA1 (r32l rfl)) (r32l rfl)) (r32l rfl))) ?_
  rintro _ _ ⟨s2, rfl, hA2, rfl, h⟩
  refine q_ic (v := Int32.ofInt 0) eX7_readText_31 rfl ?_
  refine q_istore_n eX7_readText_32 (Nat.le_of_ble_eq_true rfl) ?_
  exact q_subL rfl (h.1 hA2 (r32l rfl))
theorem eX7_refuseAskings_0 : decode cX7_refuseAskings 0 = .ok (.aload_n 0, 1) := by decide +kernel
theorem eX7_refuseAskings_1 : decode cX7_refuseAskings 1 = .ok (.iconst 5, 1) := by decide +kernel
theorem eX7_refuseAskings_2 : decode cX7_refuseAskings 2 = .ok (.putfield 60, 3) := by decide +kernel
theorem eX7_refuseAskings_5 : decode cX7_refuseAskings 5 = .ok (.aload_n 0, 1) := by decide +kernel
theorem eX7_refuseAskings_6 : decode cX7_refuseAskings 6 = .ok (.iload_n 1, 1) := by decide +kernel
theorem eX7_refuseAskings_7 : decode cX7_refuseAskings 7 = .ok (.putfield 9, 3) := by decide +kernel
theorem eX7_refuseAskings_10 : decode cX7_refuseAskings 10 = .ok (.return_, 1) := by decide +kernel
def C_X7_refuseAskings (s : ST) (p : Int) (Q : ST → Prop) : Prop := bx <| RA s → R32 p → q_met mX7_refuseAskings (qs layX s) [.ref 46, .int (Int32.ofInt p)] (PV layX Q)
theorem C_X7_refuseAskings.mono {s : ST} {p : Int} {Q Q' : ST → Prop} (h : C_X7_refuseAskings s p Q) (hq : ∀ s, Q s → Q' s) : C_X7_refuseAskings s p Q' := ⟨fun hA hrp => q_met.mono (h.1 hA hrp) (fun _ _ => PV.mono hq), trivial⟩
set_option maxRecDepth 20000 in
theorem s_X7_refuseAskings {s : ST} {p : Int} {Q : ST → Prop} (h : RA s → R32 p → Q (ui (ui s 46 0 5) 46 1 p)) : C_X7_refuseAskings s p Q := by
  refine ⟨?_, trivial⟩
  intro hA hrp
  have h := h hA hrp
  refine q_enter (by decide) (Nat.le_of_ble_eq_true rfl) ?_
  refine q_aload_n eX7_refuseAskings_0 rfl ?_
  refine q_ic (v := Int32.ofInt 5) eX7_refuseAskings_1 rfl ?_
  refine z_putI (c := 7) (n := 0) (k := 0) (kz := 0) eX7_refuseAskings_2 rfl (by decide) (by decide) fX7_60 rfl rfl rfl ?_
  refine q_aload_n eX7_refuseAskings_5 rfl ?_
  refine q_iload_n eX7_refuseAskings_6 rfl ?_
  refine z_putI (c := 7) (n := 0) (k := 1) (kz := 1) eX7_refuseAskings_7 rfl (by decide) (by decide) fX7_9 rfl rfl rfl ?_
  exact q_ret eX7_refuseAskings_10 rfl ⟨_, rfl, (ra_ui (ra_ui hA (r32l rfl)) hrp), rfl, h⟩
theorem eX8_forget_0 : decode cX8_forget 0 = .ok (.aload_n 0, 1) := by decide +kernel
theorem eX8_forget_1 : decode cX8_forget 1 = .ok (.iconst 0, 1) := by decide +kernel
theorem eX8_forget_2 : decode cX8_forget 2 = .ok (.putfield 21, 3) := by decide +kernel
theorem eX8_forget_5 : decode cX8_forget 5 = .ok (.return_, 1) := by decide +kernel
def C_X8_forget (s : ST) (Q : ST → Prop) : Prop := bx <| RA s → q_met mX8_forget (qs layX s) [.ref 88] (PV layX Q)
theorem C_X8_forget.mono {s : ST} {Q Q' : ST → Prop} (h : C_X8_forget s Q) (hq : ∀ s, Q s → Q' s) : C_X8_forget s Q' := ⟨fun hA => q_met.mono (h.1 hA) (fun _ _ => PV.mono hq), trivial⟩
set_option maxRecDepth 20000 in
theorem s_X8_forget {s : ST} {Q : ST → Prop} (h : RA s → Q (ui s 88 0 0)) : C_X8_forget s Q := by
  refine ⟨?_, trivial⟩
  intro hA
  have h := h hA
  refine q_enter (by decide) (Nat.le_of_ble_eq_true rfl) ?_
  refine q_aload_n eX8_forget_0 rfl ?_
  refine q_ic (v := Int32.ofInt 0) eX8_forget_1 rfl ?_
  refine z_putI (c := 8) (n := 0) (k := 0) (kz := 0) eX8_forget_2 rfl (by decide) (by decide) fX8_21 rfl rfl rfl ?_
  exact q_ret eX8_forget_5 rfl ⟨_, rfl, (ra_ui hA (r32l rfl)), rfl, h⟩
theorem eX8_tell_0 : decode cX8_tell 0 = .ok (.aload_n 0, 1) := by decide +kernel
theorem eX8_tell_1 : decode cX8_tell 1 = .ok (.getfield 21, 3) := by decide +kernel
theorem eX8_tell_4 : decode cX8_tell 4 = .ok (.ifCond .lt 12, 3) := by decide +kernel
theorem eX8_tell_7 : decode cX8_tell 7 = .ok (.aload_n 0, 1) := by decide +kernel
theorem eX8_tell_8 : decode cX8_tell 8 = .ok (.getfield 21, 3) := by decide +kernel
theorem eX8_tell_11 : decode cX8_tell 11 = .ok (.bipush 30, 2) := by decide +kernel
theorem eX8_tell_13 : decode cX8_tell 13 = .ok (.if_icmp .lt 5, 3) := by decide +kernel
theorem eX8_tell_16 : decode cX8_tell 16 = .ok (.iconst (-1), 1) := by decide +kernel
theorem eX8_tell_17 : decode cX8_tell 17 = .ok (.ireturn, 1) := by decide +kernel
theorem eX8_tell_18 : decode cX8_tell 18 = .ok (.aload_n 0, 1) := by decide +kernel
theorem eX8_tell_19 : decode cX8_tell 19 = .ok (.getfield 21, 3) := by decide +kernel
theorem eX8_tell_22 : decode cX8_tell 22 = .ok (.istore_n 3, 1) := by decide +kernel
theorem eX8_tell_23 : decode cX8_tell 23 = .ok (.aload_n 0, 1) := by decide +kernel
theorem eX8_tell_24 : decode cX8_tell 24 = .ok (.dup, 1) := by decide +kernel
theorem eX8_tell_25 : decode cX8_tell 25 = .ok (.getfield 21, 3) := by decide +kernel
theorem eX8_tell_28 : decode cX8_tell 28 = .ok (.iconst 1, 1) := by decide +kernel
theorem eX8_tell_29 : decode cX8_tell 29 = .ok (.iadd, 1) := by decide +kernel
theorem eX8_tell_30 : decode cX8_tell 30 = .ok (.putfield 21, 3) := by decide +kernel
theorem eX8_tell_33 : decode cX8_tell 33 = .ok (.aload_n 0, 1) := by decide +kernel
theorem eX8_tell_34 : decode cX8_tell 34 = .ok (.getfield 9, 3) := by decide +kernel
theorem eX8_tell_37 : decode cX8_tell 37 = .ok (.iload_n 3, 1) := by decide +kernel
theorem eX8_tell_38 : decode cX8_tell 38 = .ok (.iload_n 1, 1) := by decide +kernel
theorem eX8_tell_39 : decode cX8_tell 39 = .ok (.iastore, 1) := by decide +kernel
theorem eX8_tell_40 : decode cX8_tell 40 = .ok (.aload_n 0, 1) := by decide +kernel
theorem eX8_tell_41 : decode cX8_tell 41 = .ok (.getfield 15, 3) := by decide +kernel
theorem eX8_tell_44 : decode cX8_tell 44 = .ok (.iload_n 3, 1) := by decide +kernel
theorem eX8_tell_45 : decode cX8_tell 45 = .ok (.iload_n 2, 1) := by decide +kernel
theorem eX8_tell_46 : decode cX8_tell 46 = .ok (.iastore, 1) := by decide +kernel
theorem eX8_tell_47 : decode cX8_tell 47 = .ok (.aload_n 0, 1) := by decide +kernel
theorem eX8_tell_48 : decode cX8_tell 48 = .ok (.getfield 18, 3) := by decide +kernel
theorem eX8_tell_51 : decode cX8_tell 51 = .ok (.iload_n 3, 1) := by decide +kernel
theorem eX8_tell_52 : decode cX8_tell 52 = .ok (.iconst (-1), 1) := by decide +kernel
theorem eX8_tell_53 : decode cX8_tell 53 = .ok (.iastore, 1) := by decide +kernel
theorem eX8_tell_54 : decode cX8_tell 54 = .ok (.iload_n 3, 1) := by decide +kernel
theorem eX8_tell_55 : decode cX8_tell 55 = .ok (.ireturn, 1) := by decide +kernel
def C_X8_tell (s : ST) (p : Int) (q : Int) (Q : ST → Int → Prop) : Prop := bx <| RA s → R32 p → R32 q → q_met mX8_tell (qs layX s) [.ref 88, .int (Int32.ofInt p), .int (Int32.ofInt q)] (PI layX Q)
theorem C_X8_tell.mono {s : ST} {p : Int} {q : Int} {Q Q' : ST → Int → Prop} (h : C_X8_tell s p q Q) (hq : ∀ s v, Q s v → Q' s v) : C_X8_tell s p q Q' := ⟨fun hA hrp hrq => q_met.mono (h.1 hA hrp hrq) (fun _ _ => PI.mono hq), trivial⟩
set_option maxRecDepth 20000 in
theorem s_X8_tell {s : ST} {p : Int} {q : Int} {Q : ST → Int → Prop} (h : RA s → R32 p → R32 q → ((s.1 88 0 < 0 → Q s (-1)) ∧ (¬ s.1 88 0 < 0 → ((s.1 88 0 < 30 → (R32 (s.1 88 0 + 1) ∧ (((0 : Int) ≤ s.1 88 0 ∧ s.1 88 0 < 30) ∧ Q (ui (ui (ui (ui s 88 0 (s.1 88 0 + 1)) 89 (s.1 88 0) p) 90 (s.1 88 0) q) 91 (s.1 88 0) (-1)) (s.1 88 0)))) ∧ (¬ s.1 88 0 < 30 → Q s (-1)))))) : C_X8_tell s p q Q := by
  refine ⟨?_, trivial⟩
  intro hA hrp hrq
  have h := h hA hrp hrq
  refine q_enter (by decide) (Nat.le_of_ble_eq_true rfl) ?_
  refine q_aload_n eX8_tell_0 rfl ?_
  refine q_getf (c := 8) (n := 0) (k := 0) (v := .int (Int32.ofInt (s.1 88 0))) eX8_tell_1 rfl (by decide) (by decide) fX8_21 rfl ?_
  refine q_iz_lt (tgt := 16) (a := s.1 88 0) eX8_tell_4 (by decide) (ofz (hA _ _)) (fun c4 => ?_) (fun c4 => ?_)
  · have h := h.1 c4
    refine q_ic (v := Int32.ofInt (-1)) eX8_tell_16 rfl ?_
    exact q_iret eX8_tell_17 rfl ⟨_, _, rfl, hA, (r32l rfl), rfl, h⟩
  · have h := h.2 c4
    refine q_aload_n eX8_tell_7 rfl ?_
    refine q_getf (c := 8) (n := 0) (k := 0) (v := .int (Int32.ofInt (s.1 88 0))) eX8_tell_8 rfl (by decide) (by decide) fX8_21 rfl ?_
    refine q_bi (v := Int32.ofInt 30) eX8_tell_11 rfl ?_
    refine q_cz_lt (tgt := 18) (a := s.1 88 0) (b := 30) eX8_tell_13 (by decide) (ofz (hA _ _)) (ofz (r32l rfl)) (fun c13 => ?_) (fun c13 => ?_)
    · have h := h.1 c13
      refine q_aload_n eX8_tell_18 rfl ?_
      refine q_getf (c := 8) (n := 0) (k := 0) (v := .int (Int32.ofInt (s.1 88 0))) eX8_tell_19 rfl (by decide) (by decide) fX8_21 rfl ?_
      refine q_istore_n eX8_tell_22 (Nat.le_of_ble_eq_true rfl) ?_
      refine q_aload_n eX8_tell_23 rfl ?_
      refine q_dup eX8_tell_24 rfl ?_
      refine q_getf (c := 8) (n := 0) (k := 0) (v := .int (Int32.ofInt (s.1 88 0))) eX8_tell_25 rfl (by decide) (by decide) fX8_21 rfl ?_
      refine q_ic (v := Int32.ofInt 1) eX8_tell_28 rfl ?_
      refine z_iadd eX8_tell_29 ?_
      have r1 := h.1
      have h := h.2
      refine z_putI (c := 8) (n := 0) (k := 0) (kz := 0) eX8_tell_30 rfl (by decide) (by decide) fX8_21 rfl rfl rfl ?_
      refine q_aload_n eX8_tell_33 rfl ?_
      refine q_getR (c := 8) (n := 0) (k := 1) (a := 89) eX8_tell_34 rfl (by decide) (by decide) fX8_9 rfl rfl ?_
      refine q_iload_n eX8_tell_37 rfl ?_
      refine q_iload_n eX8_tell_38 rfl ?_
      have f2 := h.1
      have h := h.2
      refine z_iast (n := 30) eX8_tell_39 rfl (ofz (hA _ _)) f2  ?_
      refine q_aload_n eX8_tell_40 rfl ?_
      refine q_getR (c := 8) (n := 0) (k := 2) (a := 90) eX8_tell_41 rfl (by decide) (by decide) fX8_15 rfl rfl ?_
      refine q_iload_n eX8_tell_44 rfl ?_
      refine q_iload_n eX8_tell_45 rfl ?_
      refine z_iast (n := 30) eX8_tell_46 rfl (ofz (hA _ _)) f2  ?_
      refine q_aload_n eX8_tell_47 rfl ?_
      refine q_getR (c := 8) (n := 0) (k := 3) (a := 91) eX8_tell_48 rfl (by decide) (by decide) fX8_18 rfl rfl ?_
      refine q_iload_n eX8_tell_51 rfl ?_
      refine q_ic (v := Int32.ofInt (-1)) eX8_tell_52 rfl ?_
      refine z_iast (n := 30) eX8_tell_53 rfl (ofz (hA _ _)) f2  ?_
      refine q_iload_n eX8_tell_54 rfl ?_
      exact q_iret eX8_tell_55 rfl ⟨_, _, rfl, (ra_ui (ra_ui (ra_ui (ra_ui hA r1) hrp) hrq) (r32l rfl)), (hA _ _), rfl, h⟩
    · have h := h.2 c13
      refine q_ic (v := Int32.ofInt (-1)) eX8_tell_16 rfl ?_
      exact q_iret eX8_tell_17 rfl ⟨_, _, rfl, hA, (r32l rfl), rfl, h⟩
theorem eX8_takeBack_0 : decode cX8_takeBack 0 = .ok (.iload_n 1, 1) := by decide +kernel
theorem eX8_takeBack_1 : decode cX8_takeBack 1 = .ok (.ifCond .lt 27, 3) := by decide +kernel
theorem eX8_takeBack_4 : decode cX8_takeBack 4 = .ok (.iload_n 1, 1) := by decide +kernel
theorem eX8_takeBack_5 : decode cX8_takeBack 5 = .ok (.aload_n 0, 1) := by decide +kernel
theorem eX8_takeBack_6 : decode cX8_takeBack 6 = .ok (.getfield 21, 3) := by decide +kernel
theorem eX8_takeBack_9 : decode cX8_takeBack 9 = .ok (.if_icmp .ge 19, 3) := by decide +kernel
theorem eX8_takeBack_12 : decode cX8_takeBack 12 = .ok (.iload_n 1, 1) := by decide +kernel
theorem eX8_takeBack_13 : decode cX8_takeBack 13 = .ok (.bipush 30, 2) := by decide +kernel
theorem eX8_takeBack_15 : decode cX8_takeBack 15 = .ok (.if_icmp .ge 13, 3) := by decide +kernel
theorem eX8_takeBack_18 : decode cX8_takeBack 18 = .ok (.aload_n 0, 1) := by decide +kernel
theorem eX8_takeBack_19 : decode cX8_takeBack 19 = .ok (.getfield 18, 3) := by decide +kernel
theorem eX8_takeBack_22 : decode cX8_takeBack 22 = .ok (.iload_n 1, 1) := by decide +kernel
theorem eX8_takeBack_23 : decode cX8_takeBack 23 = .ok (.iaload, 1) := by decide +kernel
theorem eX8_takeBack_24 : decode cX8_takeBack 24 = .ok (.iconst (-1), 1) := by decide +kernel
theorem eX8_takeBack_25 : decode cX8_takeBack 25 = .ok (.if_icmp .eq 5, 3) := by decide +kernel
theorem eX8_takeBack_28 : decode cX8_takeBack 28 = .ok (.iconst 0, 1) := by decide +kernel
theorem eX8_takeBack_29 : decode cX8_takeBack 29 = .ok (.ireturn, 1) := by decide +kernel
theorem eX8_takeBack_30 : decode cX8_takeBack 30 = .ok (.aload_n 0, 1) := by decide +kernel
theorem eX8_takeBack_31 : decode cX8_takeBack 31 = .ok (.getfield 18, 3) := by decide +kernel
theorem eX8_takeBack_34 : decode cX8_takeBack 34 = .ok (.iload_n 1, 1) := by decide +kernel
theorem eX8_takeBack_35 : decode cX8_takeBack 35 = .ok (.iload_n 2, 1) := by decide +kernel
theorem eX8_takeBack_36 : decode cX8_takeBack 36 = .ok (.iastore, 1) := by decide +kernel
theorem eX8_takeBack_37 : decode cX8_takeBack 37 = .ok (.iconst 1, 1) := by decide +kernel
theorem eX8_takeBack_38 : decode cX8_takeBack 38 = .ok (.ireturn, 1) := by decide +kernel
def C_X8_takeBack (s : ST) (p : Int) (q : Int) (Q : ST → Int → Prop) : Prop := bx <| RA s → R32 p → R32 q → q_met mX8_takeBack (qs layX s) [.ref 88, .int (Int32.ofInt p), .int (Int32.ofInt q)] (PB layX Q)
theorem C_X8_takeBack.mono {s : ST} {p : Int} {q : Int} {Q Q' : ST → Int → Prop} (h : C_X8_takeBack s p q Q) (hq : ∀ s v, Q s v → Q' s v) : C_X8_takeBack s p q Q' := ⟨fun hA hrp hrq => q_met.mono (h.1 hA hrp hrq) (fun _ _ => PB.mono hq), trivial⟩
set_option maxRecDepth 20000 in
theorem s_X8_takeBack {s : ST} {p : Int} {q : Int} {Q : ST → Int → Prop} (h : RA s → R32 p → R32 q → ((p < 0 → Q s 0) ∧ (¬ p < 0 → ((s.1 88 0 ≤ p → Q s 0) ∧ (¬ s.1 88 0 ≤ p → ((30 ≤ p → Q s 0) ∧ (¬ 30 ≤ p → (((0 : Int) ≤ p ∧ p < 30) ∧ ((s.1 91 p = (-1) → Q (ui s 91 p q) 1) ∧ (¬ s.1 91 p = (-1) → Q s 0)))))))))) : C_X8_takeBack s p q Q := by
  refine ⟨?_, trivial⟩
  intro hA hrp hrq
  have h := h hA hrp hrq
  refine q_enter (by decide) (Nat.le_of_ble_eq_true rfl) ?_
  refine q_iload_n eX8_takeBack_0 rfl ?_
  refine q_iz_lt (tgt := 28) (a := p) eX8_takeBack_1 (by decide) (ofz hrp) (fun c1 => ?_) (fun c1 => ?_)
  · have h := h.1 c1
    refine q_ic (v := Int32.ofInt 0) eX8_takeBack_28 rfl ?_
    exact q_zret eX8_takeBack_29 rfl (z01 (Or.inl rfl)) ⟨_, _, rfl, hA, (Or.inl rfl), rfl, h⟩
  · have h := h.2 c1
    refine q_iload_n eX8_takeBack_4 rfl ?_
    refine q_aload_n eX8_takeBack_5 rfl ?_
    refine q_getf (c := 8) (n := 0) (k := 0) (v := .int (Int32.ofInt (s.1 88 0))) eX8_takeBack_6 rfl (by decide) (by decide) fX8_21 rfl ?_
    refine q_cz_ge (tgt := 28) (a := p) (b := s.1 88 0) eX8_takeBack_9 (by decide) (ofz hrp) (ofz (hA _ _)) (fun c9 => ?_) (fun c9 => ?_)
    · have h := h.1 c9
      refine q_ic (v := Int32.ofInt 0) eX8_takeBack_28 rfl ?_
      exact q_zret eX8_takeBack_29 rfl (z01 (Or.inl rfl)) ⟨_, _, rfl, hA, (Or.inl rfl), rfl, h⟩
    · have h := h.2 c9
      refine q_iload_n eX8_takeBack_12 rfl ?_
      refine q_bi (v := Int32.ofInt 30) eX8_takeBack_13 rfl ?_
      refine q_cz_ge (tgt := 28) (a := p) (b := 30) eX8_takeBack_15 (by decide) (ofz hrp) (ofz (r32l rfl)) (fun c15 => ?_) (fun c15 => ?_)
      · have h := h.1 c15
        refine q_ic (v := Int32.ofInt 0) eX8_takeBack_28 rfl ?_
        exact q_zret eX8_takeBack_29 rfl (z01 (Or.inl rfl)) ⟨_, _, rfl, hA, (Or.inl rfl), rfl, h⟩
      · have h := h.2 c15
        refine q_aload_n eX8_takeBack_18 rfl ?_
        refine q_getR (c := 8) (n := 0) (k := 3) (a := 91) eX8_takeBack_19 rfl (by decide) (by decide) fX8_18 rfl rfl ?_
        refine q_iload_n eX8_takeBack_22 rfl ?_
        have f1 := h.1
        have h := h.2
        refine z_iald (n := 30) eX8_takeBack_23 rfl (ofz hrp) f1 ?_
        refine q_topI (v := Int32.ofInt (s.1 91 p)) rfl ?_
        refine q_ic (v := Int32.ofInt (-1)) eX8_takeBack_24 rfl ?_
        refine q_cz_eq (tgt := 30) (a := s.1 91 p) (b := (-1)) eX8_takeBack_25 (by decide) (ofz (hA _ _)) (ofz (r32l rfl)) (fun c25 => ?_) (fun c25 => ?_)
        · have h := h.1 c25
          refine q_aload_n eX8_takeBack_30 rfl ?_
          refine q_getR (c := 8) (n := 0) (k := 3) (a := 91) eX8_takeBack_31 rfl (by decide) (by decide) fX8_18 rfl rfl ?_
          refine q_iload_n eX8_takeBack_34 rfl ?_
          refine q_iload_n eX8_takeBack_35 rfl ?_
          refine z_iast (n := 30) eX8_takeBack_36 rfl (ofz hrp) f1  ?_
          refine q_ic (v := Int32.ofInt 1) eX8_takeBack_37 rfl ?_
          exact q_zret eX8_takeBack_38 rfl (z01 (Or.inr rfl)) ⟨_, _, rfl, (ra_ui hA hrq), (Or.inr rfl), rfl, h⟩
        · have h := h.2 c25
          refine q_ic (v := Int32.ofInt 0) eX8_takeBack_28 rfl ?_
          exact q_zret eX8_takeBack_29 rfl (z01 (Or.inl rfl)) ⟨_, _, rfl, hA, (Or.inl rfl), rfl, h⟩
theorem eX8_countingAt_0 : decode cX8_countingAt 0 = .ok (.lconst 0, 1) := by decide +kernel
theorem eX8_countingAt_1 : decode cX8_countingAt 1 = .ok (.lstore_n 2, 1) := by decide +kernel
theorem eX8_countingAt_2 : decode cX8_countingAt 2 = .ok (.iconst 0, 1) := by decide +kernel
theorem eX8_countingAt_3 : decode cX8_countingAt 3 = .ok (.istore 4, 2) := by decide +kernel
theorem eX8_countingAt_5 : decode cX8_countingAt 5 = .ok (.iload 4, 2) := by decide +kernel
theorem eX8_countingAt_7 : decode cX8_countingAt 7 = .ok (.aload_n 0, 1) := by decide +kernel
theorem eX8_countingAt_8 : decode cX8_countingAt 8 = .ok (.getfield 21, 3) := by decide +kernel
theorem eX8_countingAt_11 : decode cX8_countingAt 11 = .ok (.if_icmp .ge 73, 3) := by decide +kernel
theorem eX8_countingAt_14 : decode cX8_countingAt 14 = .ok (.iload 4, 2) := by decide +kernel
theorem eX8_countingAt_16 : decode cX8_countingAt 16 = .ok (.bipush 30, 2) := by decide +kernel
theorem eX8_countingAt_18 : decode cX8_countingAt 18 = .ok (.if_icmp .ge 66, 3) := by decide +kernel
theorem eX8_countingAt_21 : decode cX8_countingAt 21 = .ok (.aload_n 0, 1) := by decide +kernel
theorem eX8_countingAt_22 : decode cX8_countingAt 22 = .ok (.getfield 18, 3) := by decide +kernel
theorem eX8_countingAt_25 : decode cX8_countingAt 25 = .ok (.iload 4, 2) := by decide +kernel
theorem eX8_countingAt_27 : decode cX8_countingAt 27 = .ok (.iaload, 1) := by decide +kernel
theorem eX8_countingAt_28 : decode cX8_countingAt 28 = .ok (.iconst (-1), 1) := by decide +kernel
theorem eX8_countingAt_29 : decode cX8_countingAt 29 = .ok (.if_icmp .eq 18, 3) := by decide +kernel
theorem eX8_countingAt_32 : decode cX8_countingAt 32 = .ok (.aload_n 0, 1) := by decide +kernel
theorem eX8_countingAt_33 : decode cX8_countingAt 33 = .ok (.getfield 18, 3) := by decide +kernel
theorem eX8_countingAt_36 : decode cX8_countingAt 36 = .ok (.iload 4, 2) := by decide +kernel
theorem eX8_countingAt_38 : decode cX8_countingAt 38 = .ok (.iaload, 1) := by decide +kernel
theorem eX8_countingAt_39 : decode cX8_countingAt 39 = .ok (.iload_n 1, 1) := by decide +kernel
theorem eX8_countingAt_40 : decode cX8_countingAt 40 = .ok (.if_icmp .gt 7, 3) := by decide +kernel
theorem eX8_countingAt_43 : decode cX8_countingAt 43 = .ok (.iconst 1, 1) := by decide +kernel
theorem eX8_countingAt_44 : decode cX8_countingAt 44 = .ok (.goto 4, 3) := by decide +kernel
theorem eX8_countingAt_47 : decode cX8_countingAt 47 = .ok (.iconst 0, 1) := by decide +kernel
theorem eX8_countingAt_48 : decode cX8_countingAt 48 = .ok (.istore 5, 2) := by decide +kernel
theorem eX8_countingAt_50 : decode cX8_countingAt 50 = .ok (.aload_n 0, 1) := by decide +kernel
theorem eX8_countingAt_51 : decode cX8_countingAt 51 = .ok (.getfield 15, 3) := by decide +kernel
theorem eX8_countingAt_54 : decode cX8_countingAt 54 = .ok (.iload 4, 2) := by decide +kernel
theorem eX8_countingAt_56 : decode cX8_countingAt 56 = .ok (.iaload, 1) := by decide +kernel
theorem eX8_countingAt_57 : decode cX8_countingAt 57 = .ok (.iload_n 1, 1) := by decide +kernel
theorem eX8_countingAt_58 : decode cX8_countingAt 58 = .ok (.if_icmp .gt 20, 3) := by decide +kernel
theorem eX8_countingAt_61 : decode cX8_countingAt 61 = .ok (.iload 5, 2) := by decide +kernel
theorem eX8_countingAt_63 : decode cX8_countingAt 63 = .ok (.ifCond .ne 15, 3) := by decide +kernel
theorem eX8_countingAt_66 : decode cX8_countingAt 66 = .ok (.lload_n 2, 1) := by decide +kernel
theorem eX8_countingAt_67 : decode cX8_countingAt 67 = .ok (.lconst 1, 1) := by decide +kernel
theorem eX8_countingAt_68 : decode cX8_countingAt 68 = .ok (.aload_n 0, 1) := by decide +kernel
theorem eX8_countingAt_69 : decode cX8_countingAt 69 = .ok (.getfield 9, 3) := by decide +kernel
theorem eX8_countingAt_72 : decode cX8_countingAt 72 = .ok (.iload 4, 2) := by decide +kernel
theorem eX8_countingAt_74 : decode cX8_countingAt 74 = .ok (.iaload, 1) := by decide +kernel
theorem eX8_countingAt_75 : decode cX8_countingAt 75 = .ok (.lshl, 1) := by decide +kernel
theorem eX8_countingAt_76 : decode cX8_countingAt 76 = .ok (.lor, 1) := by decide +kernel
theorem eX8_countingAt_77 : decode cX8_countingAt 77 = .ok (.lstore_n 2, 1) := by decide +kernel
theorem eX8_countingAt_78 : decode cX8_countingAt 78 = .ok (.iinc 4 1, 3) := by decide +kernel
theorem eX8_countingAt_81 : decode cX8_countingAt 81 = .ok (.goto (-76), 3) := by decide +kernel
theorem eX8_countingAt_84 : decode cX8_countingAt 84 = .ok (.lload_n 2, 1) := by decide +kernel
theorem eX8_countingAt_85 : decode cX8_countingAt 85 = .ok (.lreturn, 1) := by decide +kernel
def C_X8_countingAt (s : ST) (p : Int) (Q : ST → Int64 → Prop) : Prop := bx <| RA s → R32 p → q_met mX8_countingAt (qs layX s) [.ref 88, .int (Int32.ofInt p)] (PL layX Q)
theorem C_X8_countingAt.mono {s : ST} {p : Int} {Q Q' : ST → Int64 → Prop} (h : C_X8_countingAt s p Q) (hq : ∀ s v, Q s v → Q' s v) : C_X8_countingAt s p Q' := ⟨fun hA hrp => q_met.mono (h.1 hA hrp) (fun _ _ => PL.mono hq), trivial⟩
def K_X8_countingAt_48 (s : ST) (a1 : Int) (a2 : Int64) (a4 : Int) (t0 : Int) (Q : ST → Int64 → Prop) : Prop := bx <| RA s → R32 a1 → R32 a4 → R32 t0 → q_K mX8_countingAt (qs layX s) 0 0 48 [(0, .ref 88), (1, .int (Int32.ofInt a1)), (2, .long a2), (4, .int (Int32.ofInt a4))] [.int (Int32.ofInt t0)] (q_fin mX8_countingAt (PL layX Q))
def K_X8_countingAt_47 (s : ST) (a1 : Int) (a2 : Int64) (a4 : Int) (Q : ST → Int64 → Prop) : Prop := bx <| RA s → R32 a1 → R32 a4 → q_K mX8_countingAt (qs layX s) 0 0 47 [(0, .ref 88), (1, .int (Int32.ofInt a1)), (2, .long a2), (4, .int (Int32.ofInt a4))] [] (q_fin mX8_countingAt (PL layX Q))
def K_X8_countingAt_5 (s : ST) (a1 : Int) (a2 : Int64) (a4 : Int) (Q : ST → Int64 → Prop) : Prop := bx <| RA s → R32 a1 → R32 a4 → q_K mX8_countingAt (qs layX s) 0 0 5 [(0, .ref 88), (1, .int (Int32.ofInt a1)), (2, .long a2), (4, .int (Int32.ofInt a4))] [] (q_fin mX8_countingAt (PL layX Q))
set_option maxRecDepth 20000 in
theorem s_X8_countingAt_48 {s : ST} {a1 : Int} {a2 : Int64} {a4 : Int} {t0 : Int} {Q : ST → Int64 → Prop} (h : RA s → R32 a1 → R32 a4 → R32 t0 → (((0 : Int) ≤ a4 ∧ a4 < 30) ∧ ((a1 < s.1 90 a4 → (R32 (a4 + 1) ∧ K_X8_countingAt_5 s a1 a2 (a4 + 1) Q)) ∧ (¬ a1 < s.1 90 a4 → ((¬ t0 = 0 → (R32 (a4 + 1) ∧ K_X8_countingAt_5 s a1 a2 (a4 + 1) Q)) ∧ (t0 = 0 → (R32 (a4 + 1) ∧ K_X8_countingAt_5 s a1 (a2 ||| (lshl 1 (s.1 89 a4))) (a4 + 1) Q))))))) : K_X8_countingAt_48 s a1 a2 a4 t0 Q := by
  refine ⟨?_, trivial⟩
  intro hA hra1 hra4 hrt0
  have h := h hA hra1 hra4 hrt0
  refine q_istore eX8_countingAt_48 (Nat.le_of_ble_eq_true rfl) ?_
  refine q_aload_n eX8_countingAt_50 rfl ?_
  refine q_getR (c := 8) (n := 0) (k := 2) (a := 90) eX8_countingAt_51 rfl (by decide) (by decide) fX8_15 rfl rfl ?_
  refine q_iload eX8_countingAt_54 rfl ?_
  have f1 := h.1
  have h := h.2
  refine z_iald (n := 30) eX8_countingAt_56 rfl (ofz hra4) f1 ?_
  refine q_topI (v := Int32.ofInt (s.1 90 a4)) rfl ?_
  refine q_iload_n eX8_countingAt_57 rfl ?_
  refine q_cz_gt (tgt := 78) (a := s.1 90 a4) (b := a1) eX8_countingAt_58 (by decide) (ofz (hA _ _)) (ofz hra1) (fun c58 => ?_) (fun c58 => ?_)
  · have h := h.1 c58
    have r2 := h.1
    have h := h.2
    refine z_inc (m := 1) eX8_countingAt_78 rfl (Nat.le_of_ble_eq_true rfl) rfl ?_
    refine q_goto (tgt := 5) eX8_countingAt_81 (by decide) ?_
    exact q_subL rfl (h.1 hA hra1 r2)
  · have h := h.2 c58
    refine q_iload eX8_countingAt_61 rfl ?_
    refine q_iz_ne (tgt := 78) (a := t0) eX8_countingAt_63 (by decide) (ofz hrt0) (fun c63 => ?_) (fun c63 => ?_)
    · have h := h.1 c63
      have r3 := h.1
      have h := h.2
      refine z_inc (m := 1) eX8_countingAt_78 rfl (Nat.le_of_ble_eq_true rfl) rfl ?_
      refine q_goto (tgt := 5) eX8_countingAt_81 (by decide) ?_
      exact q_subL rfl (h.1 hA hra1 r3)
    · have h := h.2 c63
      refine q_lload_n eX8_countingAt_66 rfl ?_
      refine q_lc (v := 1) eX8_countingAt_67 rfl ?_
      refine q_aload_n eX8_countingAt_68 rfl ?_
      refine q_getR (c := 8) (n := 0) (k := 1) (a := 89) eX8_countingAt_69 rfl (by decide) (by decide) fX8_9 rfl rfl ?_
      refine q_iload eX8_countingAt_72 rfl ?_
      refine z_iald (n := 30) eX8_countingAt_74 rfl (ofz hra4) f1 ?_
      refine q_topI (v := Int32.ofInt (s.1 89 a4)) rfl ?_
      refine z_lshl eX8_countingAt_75 ?_
      refine q_lor eX8_countingAt_76 ?_
      refine q_lstore_n eX8_countingAt_77 (Nat.le_of_ble_eq_true rfl) ?_
      have r4 := h.1
      have h := h.2
      refine z_inc (m := 1) eX8_countingAt_78 rfl (Nat.le_of_ble_eq_true rfl) rfl ?_
      refine q_goto (tgt := 5) eX8_countingAt_81 (by decide) ?_
      exact q_subL rfl (h.1 hA hra1 r4)
set_option maxRecDepth 20000 in
theorem s_X8_countingAt_47 {s : ST} {a1 : Int} {a2 : Int64} {a4 : Int} {Q : ST → Int64 → Prop} (h : RA s → R32 a1 → R32 a4 → K_X8_countingAt_48 s a1 a2 a4 0 Q) : K_X8_countingAt_47 s a1 a2 a4 Q := by
  refine ⟨?_, trivial⟩
  intro hA hra1 hra4
  have h := h hA hra1 hra4
  refine q_ic (v := Int32.ofInt 0) eX8_countingAt_47 rfl ?_
  exact q_subL rfl (h.1 hA hra1 hra4 (r32l rfl))
set_option maxRecDepth 20000 in
theorem s_X8_countingAt_5 {s : ST} {a1 : Int} {a2 : Int64} {a4 : Int} {Q : ST → Int64 → Prop} (h : RA s → R32 a1 → R32 a4 → ((s.1 88 0 ≤ a4 → Q s a2) ∧ (¬ s.1 88 0 ≤ a4 → ((30 ≤ a4 → Q s a2) ∧ (¬ 30 ≤ a4 → (((0 : Int) ≤ a4 ∧ a4 < 30) ∧ ((s.1 91 a4 = (-1) → K_X8_countingAt_47 s a1 a2 a4 Q) ∧ (¬ s.1 91 a4 = (-1) → ((a1 < s.1 91 a4 → K_X8_countingAt_47 s a1 a2 a4 Q) ∧ (¬ a1 < s.1 91 a4 → K_X8_countingAt_48 s a1 a2 a4 1 Q)))))))))) : K_X8_countingAt_5 s a1 a2 a4 Q := by
  refine ⟨?_, trivial⟩
  intro hA hra1 hra4
  have h := h hA hra1 hra4
  refine q_iload eX8_countingAt_5 rfl ?_
  refine q_aload_n eX8_countingAt_7 rfl ?_
  refine q_getf (c := 8) (n := 0) (k := 0) (v := .int (Int32.ofInt (s.1 88 0))) eX8_countingAt_8 rfl (by decide) (by decide) fX8_21 rfl ?_
  refine q_cz_ge (tgt := 84) (a := a4) (b := s.1 88 0) eX8_countingAt_11 (by decide) (ofz hra4) (ofz (hA _ _)) (fun c11 => ?_) (fun c11 => ?_)
  · have h := h.1 c11
    refine q_lload_n eX8_countingAt_84 rfl ?_
    exact q_lret eX8_countingAt_85 rfl ⟨_, _, rfl, hA, rfl, h⟩
  · have h := h.2 c11
    refine q_iload eX8_countingAt_14 rfl ?_
    refine q_bi (v := Int32.ofInt 30) eX8_countingAt_16 rfl ?_
    refine q_cz_ge (tgt := 84) (a := a4) (b := 30) eX8_countingAt_18 (by decide) (ofz hra4) (ofz (r32l rfl)) (fun c18 => ?_) (fun c18 => ?_)
    · have h := h.1 c18
      refine q_lload_n eX8_countingAt_84 rfl ?_
      exact q_lret eX8_countingAt_85 rfl ⟨_, _, rfl, hA, rfl, h⟩
    · have h := h.2 c18
      refine q_aload_n eX8_countingAt_21 rfl ?_
      refine q_getR (c := 8) (n := 0) (k := 3) (a := 91) eX8_countingAt_22 rfl (by decide) (by decide) fX8_18 rfl rfl ?_
      refine q_iload eX8_countingAt_25 rfl ?_
      have f1 := h.1
      have h := h.2
      refine z_iald (n := 30) eX8_countingAt_27 rfl (ofz hra4) f1 ?_
      refine q_topI (v := Int32.ofInt (s.1 91 a4)) rfl ?_
      refine q_ic (v := Int32.ofInt (-1)) eX8_countingAt_28 rfl ?_
      refine q_cz_eq (tgt := 47) (a := s.1 91 a4) (b := (-1)) eX8_countingAt_29 (by decide) (ofz (hA _ _)) (ofz (r32l rfl)) (fun c29 => ?_) (fun c29 => ?_)
      · have h := h.1 c29
        exact q_subL rfl (h.1 hA hra1 hra4)
      · have h := h.2 c29
        refine q_aload_n eX8_countingAt_32 rfl ?_
        refine q_getR (c := 8) (n := 0) (k := 3) (a := 91) eX8_countingAt_33 rfl (by decide) (by decide) fX8_18 rfl rfl ?_
        refine q_iload eX8_countingAt_36 rfl ?_
        refine z_iald (n := 30) eX8_countingAt_38 rfl (ofz hra4) f1 ?_
        refine q_topI (v := Int32.ofInt (s.1 91 a4)) rfl ?_
        refine q_iload_n eX8_countingAt_39 rfl ?_
        refine q_cz_gt (tgt := 47) (a := s.1 91 a4) (b := a1) eX8_countingAt_40 (by decide) (ofz (hA _ _)) (ofz hra1) (fun c40 => ?_) (fun c40 => ?_)
        · have h := h.1 c40
          exact q_subL rfl (h.1 hA hra1 hra4)
        · have h := h.2 c40
          refine q_ic (v := Int32.ofInt 1) eX8_countingAt_43 rfl ?_
          refine q_goto (tgt := 48) eX8_countingAt_44 (by decide) ?_
          exact q_subL rfl (h.1 hA hra1 hra4 (r32l rfl))
set_option maxRecDepth 20000 in
theorem s_X8_countingAt {s : ST} {p : Int} {Q : ST → Int64 → Prop} (h : RA s → R32 p → K_X8_countingAt_5 s p 0 0 Q) : C_X8_countingAt s p Q := by
  refine ⟨?_, trivial⟩
  intro hA hrp
  have h := h hA hrp
  refine q_enter (by decide) (Nat.le_of_ble_eq_true rfl) ?_
  refine q_lc (v := 0) eX8_countingAt_0 rfl ?_
  refine q_lstore_n eX8_countingAt_1 (Nat.le_of_ble_eq_true rfl) ?_
  refine q_ic (v := Int32.ofInt 0) eX8_countingAt_2 rfl ?_
  refine q_istore eX8_countingAt_3 (Nat.le_of_ble_eq_true rfl) ?_
  exact q_subL rfl (h.1 hA hrp (r32l rfl))
theorem eX9_hasAll_0 : decode cX9_hasAll 0 = .ok (.lload_n 1, 1) := by decide +kernel
theorem eX9_hasAll_1 : decode cX9_hasAll 1 = .ok (.aload_n 0, 1) := by decide +kernel
theorem eX9_hasAll_2 : decode cX9_hasAll 2 = .ok (.invokevirtual 65, 3) := by decide +kernel
theorem eX9_hasAll_5 : decode cX9_hasAll 5 = .ok (.ldc2_w 69, 3) := by decide +kernel
theorem eX9_hasAll_8 : decode cX9_hasAll 8 = .ok (.lxor, 1) := by decide +kernel
theorem eX9_hasAll_9 : decode cX9_hasAll 9 = .ok (.land, 1) := by decide +kernel
theorem eX9_hasAll_10 : decode cX9_hasAll 10 = .ok (.lconst 0, 1) := by decide +kernel
theorem eX9_hasAll_11 : decode cX9_hasAll 11 = .ok (.lcmp, 1) := by decide +kernel
theorem eX9_hasAll_12 : decode cX9_hasAll 12 = .ok (.ifCond .ne 7, 3) := by decide +kernel
theorem eX9_hasAll_15 : decode cX9_hasAll 15 = .ok (.iconst 1, 1) := by decide +kernel
theorem eX9_hasAll_16 : decode cX9_hasAll 16 = .ok (.goto 4, 3) := by decide +kernel
theorem eX9_hasAll_19 : decode cX9_hasAll 19 = .ok (.iconst 0, 1) := by decide +kernel
theorem eX9_hasAll_20 : decode cX9_hasAll 20 = .ok (.ireturn, 1) := by decide +kernel
def C_X9_hasAll (t : Nat) (s : ST) (p : Int64) (Q : ST → Int → Prop) : Prop := bx <| isT t → RA s → q_met mX9_hasAll (qs layX s) [.ref t, .long p] (PB layX Q)
theorem C_X9_hasAll.mono {t : Nat} {s : ST} {p : Int64} {Q Q' : ST → Int → Prop} (h : C_X9_hasAll t s p Q) (hq : ∀ s v, Q s v → Q' s v) : C_X9_hasAll t s p Q' := ⟨fun ht hA => q_met.mono (h.1 ht hA) (fun _ _ => PB.mono hq), trivial⟩
set_option maxRecDepth 20000 in
theorem s_X9_hasAll {t : Nat} {s : ST} {p : Int64} {Q : ST → Int → Prop} (h : isT t → RA s → ((¬ (p &&& (((lshl 1 (s.1 t 1)) - 1) ^^^ (-1))) = 0 → Q s 0) ∧ ((p &&& (((lshl 1 (s.1 t 1)) - 1) ^^^ (-1))) = 0 → Q s 1))) : C_X9_hasAll t s p Q := by
  refine ⟨?_, trivial⟩
  intro ht hA
  have h := h ht hA
  refine q_enter (by decide) (Nat.le_of_ble_eq_true rfl) ?_
  refine q_lload_n eX9_hasAll_0 rfl ?_
  refine q_aload_n eX9_hasAll_1 rfl ?_
  refine q_V0 (ci := 9) (n := 0) eX9_hasAll_2 DX9_all lX9_65 (tl_0 ht) (by decide) rfl rfl rfl rfl (p_X9_all ht hA) ?_
  rintro _ _ ⟨rfl, rfl⟩
  refine q_ldc2 (v := (-1)) eX9_hasAll_5 nX9_69 ?_
  refine q_lxor eX9_hasAll_8 ?_
  refine q_land eX9_hasAll_9 ?_
  refine q_lc (v := 0) eX9_hasAll_10 rfl ?_
  refine q_lcmp eX9_hasAll_11 ?_
  refine z_lc_ne (tgt := 19) eX9_hasAll_12 (by decide) (fun c12 => ?_) (fun c12 => ?_)
  · have h := h.1 c12
    refine q_ic (v := Int32.ofInt 0) eX9_hasAll_19 rfl ?_
    exact q_zret eX9_hasAll_20 rfl (z01 (Or.inl rfl)) ⟨_, _, rfl, hA, (Or.inl rfl), rfl, h⟩
  · have h := h.2 c12
    refine q_ic (v := Int32.ofInt 1) eX9_hasAll_15 rfl ?_
    refine q_goto (tgt := 20) eX9_hasAll_16 (by decide) ?_
    exact q_zret eX9_hasAll_20 rfl (z01 (Or.inr rfl)) ⟨_, _, rfl, hA, (Or.inr rfl), rfl, h⟩
def F_X9_hasAll (t : Nat) (s : ST) (p : Int64) : Int := (if (p &&& (((lshl 1 (s.1 t 1)) - 1) ^^^ (-1))) = 0 then 1 else 0)
theorem w_X9_hasAll {t : Nat} {s : ST} {p : Int64} : C_X9_hasAll t s p (fun s' v => s' = s ∧ v = F_X9_hasAll t s p) := by
  refine s_X9_hasAll (fun ht hA => ?_)
  refine ⟨fun e0 => ?_, fun e0 => ?_⟩
  · exact ⟨rfl, by unfold F_X9_hasAll; rw [if_neg e0]⟩
  · exact ⟨rfl, by unfold F_X9_hasAll; rw [if_pos e0]⟩
theorem p_X9_hasAll {t : Nat} {s : ST} {p : Int64} : isT t → RA s → q_met mX9_hasAll (qs layX s) [.ref t, .long p] (fun σ r => (F_X9_hasAll t s p = 0 ∨ F_X9_hasAll t s p = 1) ∧ σ = qs layX s ∧ r = some (.int (Int32.ofInt (F_X9_hasAll t s p)))) := fun ht hA => q_met.mono ((w_X9_hasAll).1 ht hA) (by
  rintro _ _ ⟨s1, v1, rfl, h1, h2, rfl, rfl, rfl⟩
  exact ⟨h2, rfl, rfl⟩)
theorem n_X9_hasAll {t : Nat} {s : ST} {p : Int64} : ¬ F_X9_hasAll t s p = 0 ↔ (p &&& (((lshl 1 (s.1 t 1)) - 1) ^^^ (-1))) = 0 := by
  unfold F_X9_hasAll
  first | omega | ((repeat' split) <;> simp_all) | ((repeat' split) <;> (simp_all <;> omega))
theorem eX9_trustOfAll_0 : decode cX9_trustOfAll 0 = .ok (.iconst 0, 1) := by decide +kernel
theorem eX9_trustOfAll_1 : decode cX9_trustOfAll 1 = .ok (.istore_n 1, 1) := by decide +kernel
theorem eX9_trustOfAll_2 : decode cX9_trustOfAll 2 = .ok (.iconst 0, 1) := by decide +kernel
theorem eX9_trustOfAll_3 : decode cX9_trustOfAll 3 = .ok (.istore_n 2, 1) := by decide +kernel
theorem eX9_trustOfAll_4 : decode cX9_trustOfAll 4 = .ok (.iload_n 2, 1) := by decide +kernel
theorem eX9_trustOfAll_5 : decode cX9_trustOfAll 5 = .ok (.aload_n 0, 1) := by decide +kernel
theorem eX9_trustOfAll_6 : decode cX9_trustOfAll 6 = .ok (.getfield 59, 3) := by decide +kernel
theorem eX9_trustOfAll_9 : decode cX9_trustOfAll 9 = .ok (.if_icmp .ge 24, 3) := by decide +kernel
theorem eX9_trustOfAll_12 : decode cX9_trustOfAll 12 = .ok (.iload_n 2, 1) := by decide +kernel
theorem eX9_trustOfAll_13 : decode cX9_trustOfAll 13 = .ok (.bipush 40, 2) := by decide +kernel
theorem eX9_trustOfAll_15 : decode cX9_trustOfAll 15 = .ok (.if_icmp .ge 18, 3) := by decide +kernel
theorem eX9_trustOfAll_18 : decode cX9_trustOfAll 18 = .ok (.iload_n 1, 1) := by decide +kernel
theorem eX9_trustOfAll_19 : decode cX9_trustOfAll 19 = .ok (.aload_n 0, 1) := by decide +kernel
theorem eX9_trustOfAll_20 : decode cX9_trustOfAll 20 = .ok (.getfield 31, 3) := by decide +kernel
theorem eX9_trustOfAll_23 : decode cX9_trustOfAll 23 = .ok (.iload_n 2, 1) := by decide +kernel
theorem eX9_trustOfAll_24 : decode cX9_trustOfAll 24 = .ok (.iaload, 1) := by decide +kernel
theorem eX9_trustOfAll_25 : decode cX9_trustOfAll 25 = .ok (.iadd, 1) := by decide +kernel
theorem eX9_trustOfAll_26 : decode cX9_trustOfAll 26 = .ok (.istore_n 1, 1) := by decide +kernel
theorem eX9_trustOfAll_27 : decode cX9_trustOfAll 27 = .ok (.iinc 2 1, 3) := by decide +kernel
theorem eX9_trustOfAll_30 : decode cX9_trustOfAll 30 = .ok (.goto (-26), 3) := by decide +kernel
theorem eX9_trustOfAll_33 : decode cX9_trustOfAll 33 = .ok (.iload_n 1, 1) := by decide +kernel
theorem eX9_trustOfAll_34 : decode cX9_trustOfAll 34 = .ok (.ireturn, 1) := by decide +kernel
def C_X9_trustOfAll (t : Nat) (s : ST) (Q : ST → Int → Prop) : Prop := bx <| isT t → RA s → q_met mX9_trustOfAll (qs layX s) [.ref t] (PI layX Q)
theorem C_X9_trustOfAll.mono {t : Nat} {s : ST} {Q Q' : ST → Int → Prop} (h : C_X9_trustOfAll t s Q) (hq : ∀ s v, Q s v → Q' s v) : C_X9_trustOfAll t s Q' := ⟨fun ht hA => q_met.mono (h.1 ht hA) (fun _ _ => PI.mono hq), trivial⟩
def K_X9_trustOfAll_4 (t : Nat) (s : ST) (a1 : Int) (a2 : Int) (Q : ST → Int → Prop) : Prop := bx <| isT t → RA s → R32 a1 → R32 a2 → q_K mX9_trustOfAll (qs layX s) 0 0 4 [(0, .ref t), (1, .int (Int32.ofInt a1)), (2, .int (Int32.ofInt a2))] [] (q_fin mX9_trustOfAll (PI layX Q))
set_option maxRecDepth 20000 in
theorem s_X9_trustOfAll_4 {t : Nat} {s : ST} {a1 : Int} {a2 : Int} {Q : ST → Int → Prop} (h : isT t → RA s → R32 a1 → R32 a2 → ((s.1 t 1 ≤ a2 → Q s a1) ∧ (¬ s.1 t 1 ≤ a2 → ((40 ≤ a2 → Q s a1) ∧ (¬ 40 ≤ a2 → (((0 : Int) ≤ a2 ∧ a2 < 40) ∧ (R32 (a2 + 1) ∧ K_X9_trustOfAll_4 t s (w32 (a1 + s.1 (t + 7) a2)) (a2 + 1) Q))))))) : K_X9_trustOfAll_4 t s a1 a2 Q := by
  refine ⟨?_, trivial⟩
  intro ht hA hra1 hra2
  have h := h ht hA hra1 hra2
  refine q_iload_n eX9_trustOfAll_4 rfl ?_
  refine q_aload_n eX9_trustOfAll_5 rfl ?_
  refine q_getf (c := 9) (n := 0) (k := 1) (v := .int (Int32.ofInt (s.1 t 1))) eX9_trustOfAll_6 (tl_0 ht) (by decide) (by decide) fX9_59 rfl ?_
  refine q_cz_ge (tgt := 33) (a := a2) (b := s.1 t 1) eX9_trustOfAll_9 (by decide) (ofz hra2) (ofz (hA _ _)) (fun c9 => ?_) (fun c9 => ?_)
  · have h := h.1 c9
    refine q_iload_n eX9_trustOfAll_33 rfl ?_
    exact q_iret eX9_trustOfAll_34 rfl ⟨_, _, rfl, hA, hra1, rfl, h⟩
  · have h := h.2 c9
    refine q_iload_n eX9_trustOfAll_12 rfl ?_
    refine q_bi (v := Int32.ofInt 40) eX9_trustOfAll_13 rfl ?_
    refine q_cz_ge (tgt := 33) (a := a2) (b := 40) eX9_trustOfAll_15 (by decide) (ofz hra2) (ofz (r32l rfl)) (fun c15 => ?_) (fun c15 => ?_)
    · have h := h.1 c15
      refine q_iload_n eX9_trustOfAll_33 rfl ?_
      exact q_iret eX9_trustOfAll_34 rfl ⟨_, _, rfl, hA, hra1, rfl, h⟩
    · have h := h.2 c15
      refine q_iload_n eX9_trustOfAll_18 rfl ?_
      refine q_aload_n eX9_trustOfAll_19 rfl ?_
      refine q_getR (c := 9) (n := 0) (k := 9) (a := (t + 7)) eX9_trustOfAll_20 (tl_0 ht) (by decide) (by decide) fX9_31 rfl (tr_9 ht) ?_
      refine q_iload_n eX9_trustOfAll_23 rfl ?_
      have f1 := h.1
      have h := h.2
      refine z_iald (n := 40) eX9_trustOfAll_24 (tl_7 ht) (ofz hra2) f1 ?_
      refine q_topI (v := Int32.ofInt (s.1 (t + 7) a2)) rfl ?_
      refine z_iadd eX9_trustOfAll_25 ?_
      refine q_topI (v := Int32.ofInt (w32 (a1 + s.1 (t + 7) a2))) (w32_of _).symm ?_
      refine q_istore_n eX9_trustOfAll_26 (Nat.le_of_ble_eq_true rfl) ?_
      have r2 := h.1
      have h := h.2
      refine z_inc (m := 1) eX9_trustOfAll_27 rfl (Nat.le_of_ble_eq_true rfl) rfl ?_
      refine q_goto (tgt := 4) eX9_trustOfAll_30 (by decide) ?_
      exact q_subL rfl (h.1 ht hA (w32_r _) r2)
set_option maxRecDepth 20000 in
theorem s_X9_trustOfAll {t : Nat} {s : ST} {Q : ST → Int → Prop} (h : isT t → RA s → K_X9_trustOfAll_4 t s 0 0 Q) : C_X9_trustOfAll t s Q := by
  refine ⟨?_, trivial⟩
  intro ht hA
  have h := h ht hA
  refine q_enter (by decide) (Nat.le_of_ble_eq_true rfl) ?_
  refine q_ic (v := Int32.ofInt 0) eX9_trustOfAll_0 rfl ?_
  refine q_istore_n eX9_trustOfAll_1 (Nat.le_of_ble_eq_true rfl) ?_
  refine q_ic (v := Int32.ofInt 0) eX9_trustOfAll_2 rfl ?_
  refine q_istore_n eX9_trustOfAll_3 (Nat.le_of_ble_eq_true rfl) ?_
  exact q_subL rfl (h.1 ht hA (r32l rfl) (r32l rfl))
theorem eX9_copyFrom_0 : decode cX9_copyFrom 0 = .ok (.aload_n 0, 1) := by decide +kernel
theorem eX9_copyFrom_1 : decode cX9_copyFrom 1 = .ok (.aload_n 1, 1) := by decide +kernel
theorem eX9_copyFrom_2 : decode cX9_copyFrom 2 = .ok (.getfield 55, 3) := by decide +kernel
theorem eX9_copyFrom_5 : decode cX9_copyFrom 5 = .ok (.putfield 55, 3) := by decide +kernel
theorem eX9_copyFrom_8 : decode cX9_copyFrom 8 = .ok (.aload_n 0, 1) := by decide +kernel
theorem eX9_copyFrom_9 : decode cX9_copyFrom 9 = .ok (.aload_n 1, 1) := by decide +kernel
theorem eX9_copyFrom_10 : decode cX9_copyFrom 10 = .ok (.getfield 59, 3) := by decide +kernel
theorem eX9_copyFrom_13 : decode cX9_copyFrom 13 = .ok (.putfield 59, 3) := by decide +kernel
theorem eX9_copyFrom_16 : decode cX9_copyFrom 16 = .ok (.aload_n 0, 1) := by decide +kernel
theorem eX9_copyFrom_17 : decode cX9_copyFrom 17 = .ok (.aload_n 1, 1) := by decide +kernel
theorem eX9_copyFrom_18 : decode cX9_copyFrom 18 = .ok (.invokevirtual 106, 3) := by decide +kernel
theorem eX9_copyFrom_21 : decode cX9_copyFrom 21 = .ok (.aload_n 1, 1) := by decide +kernel
theorem eX9_copyFrom_22 : decode cX9_copyFrom 22 = .ok (.getfield 9, 3) := by decide +kernel
theorem eX9_copyFrom_25 : decode cX9_copyFrom 25 = .ok (.iconst 0, 1) := by decide +kernel
theorem eX9_copyFrom_26 : decode cX9_copyFrom 26 = .ok (.aload_n 0, 1) := by decide +kernel
theorem eX9_copyFrom_27 : decode cX9_copyFrom 27 = .ok (.getfield 9, 3) := by decide +kernel
theorem eX9_copyFrom_30 : decode cX9_copyFrom 30 = .ok (.iconst 0, 1) := by decide +kernel
theorem eX9_copyFrom_31 : decode cX9_copyFrom 31 = .ok (.bipush 8, 2) := by decide +kernel
theorem eX9_copyFrom_33 : decode cX9_copyFrom 33 = .ok (.invokestatic 100, 3) := by decide +kernel
theorem eX9_copyFrom_36 : decode cX9_copyFrom 36 = .ok (.aload_n 1, 1) := by decide +kernel
theorem eX9_copyFrom_37 : decode cX9_copyFrom 37 = .ok (.getfield 15, 3) := by decide +kernel
theorem eX9_copyFrom_40 : decode cX9_copyFrom 40 = .ok (.iconst 0, 1) := by decide +kernel
theorem eX9_copyFrom_41 : decode cX9_copyFrom 41 = .ok (.aload_n 0, 1) := by decide +kernel
theorem eX9_copyFrom_42 : decode cX9_copyFrom 42 = .ok (.getfield 15, 3) := by decide +kernel
theorem eX9_copyFrom_45 : decode cX9_copyFrom 45 = .ok (.iconst 0, 1) := by decide +kernel
theorem eX9_copyFrom_46 : decode cX9_copyFrom 46 = .ok (.bipush 8, 2) := by decide +kernel
theorem eX9_copyFrom_48 : decode cX9_copyFrom 48 = .ok (.invokestatic 100, 3) := by decide +kernel
theorem eX9_copyFrom_51 : decode cX9_copyFrom 51 = .ok (.aload_n 1, 1) := by decide +kernel
theorem eX9_copyFrom_52 : decode cX9_copyFrom 52 = .ok (.getfield 19, 3) := by decide +kernel
theorem eX9_copyFrom_55 : decode cX9_copyFrom 55 = .ok (.iconst 0, 1) := by decide +kernel
theorem eX9_copyFrom_56 : decode cX9_copyFrom 56 = .ok (.aload_n 0, 1) := by decide +kernel
theorem eX9_copyFrom_57 : decode cX9_copyFrom 57 = .ok (.getfield 19, 3) := by decide +kernel
theorem eX9_copyFrom_60 : decode cX9_copyFrom 60 = .ok (.iconst 0, 1) := by decide +kernel
theorem eX9_copyFrom_61 : decode cX9_copyFrom 61 = .ok (.bipush 40, 2) := by decide +kernel
theorem eX9_copyFrom_63 : decode cX9_copyFrom 63 = .ok (.invokestatic 100, 3) := by decide +kernel
theorem eX9_copyFrom_66 : decode cX9_copyFrom 66 = .ok (.aload_n 1, 1) := by decide +kernel
theorem eX9_copyFrom_67 : decode cX9_copyFrom 67 = .ok (.getfield 22, 3) := by decide +kernel
theorem eX9_copyFrom_70 : decode cX9_copyFrom 70 = .ok (.iconst 0, 1) := by decide +kernel
theorem eX9_copyFrom_71 : decode cX9_copyFrom 71 = .ok (.aload_n 0, 1) := by decide +kernel
theorem eX9_copyFrom_72 : decode cX9_copyFrom 72 = .ok (.getfield 22, 3) := by decide +kernel
theorem eX9_copyFrom_75 : decode cX9_copyFrom 75 = .ok (.iconst 0, 1) := by decide +kernel
theorem eX9_copyFrom_76 : decode cX9_copyFrom 76 = .ok (.bipush 40, 2) := by decide +kernel
theorem eX9_copyFrom_78 : decode cX9_copyFrom 78 = .ok (.invokestatic 100, 3) := by decide +kernel
theorem eX9_copyFrom_81 : decode cX9_copyFrom 81 = .ok (.aload_n 1, 1) := by decide +kernel
theorem eX9_copyFrom_82 : decode cX9_copyFrom 82 = .ok (.getfield 25, 3) := by decide +kernel
theorem eX9_copyFrom_85 : decode cX9_copyFrom 85 = .ok (.iconst 0, 1) := by decide +kernel
theorem eX9_copyFrom_86 : decode cX9_copyFrom 86 = .ok (.aload_n 0, 1) := by decide +kernel
theorem eX9_copyFrom_87 : decode cX9_copyFrom 87 = .ok (.getfield 25, 3) := by decide +kernel
theorem eX9_copyFrom_90 : decode cX9_copyFrom 90 = .ok (.iconst 0, 1) := by decide +kernel
theorem eX9_copyFrom_91 : decode cX9_copyFrom 91 = .ok (.bipush 40, 2) := by decide +kernel
theorem eX9_copyFrom_93 : decode cX9_copyFrom 93 = .ok (.invokestatic 100, 3) := by decide +kernel
theorem eX9_copyFrom_96 : decode cX9_copyFrom 96 = .ok (.aload_n 1, 1) := by decide +kernel
theorem eX9_copyFrom_97 : decode cX9_copyFrom 97 = .ok (.getfield 28, 3) := by decide +kernel
theorem eX9_copyFrom_100 : decode cX9_copyFrom 100 = .ok (.iconst 0, 1) := by decide +kernel
theorem eX9_copyFrom_101 : decode cX9_copyFrom 101 = .ok (.aload_n 0, 1) := by decide +kernel
theorem eX9_copyFrom_102 : decode cX9_copyFrom 102 = .ok (.getfield 28, 3) := by decide +kernel
theorem eX9_copyFrom_105 : decode cX9_copyFrom 105 = .ok (.iconst 0, 1) := by decide +kernel
theorem eX9_copyFrom_106 : decode cX9_copyFrom 106 = .ok (.bipush 40, 2) := by decide +kernel
theorem eX9_copyFrom_108 : decode cX9_copyFrom 108 = .ok (.invokestatic 100, 3) := by decide +kernel
theorem eX9_copyFrom_111 : decode cX9_copyFrom 111 = .ok (.aload_n 1, 1) := by decide +kernel
theorem eX9_copyFrom_112 : decode cX9_copyFrom 112 = .ok (.getfield 31, 3) := by decide +kernel
theorem eX9_copyFrom_115 : decode cX9_copyFrom 115 = .ok (.iconst 0, 1) := by decide +kernel
theorem eX9_copyFrom_116 : decode cX9_copyFrom 116 = .ok (.aload_n 0, 1) := by decide +kernel
theorem eX9_copyFrom_117 : decode cX9_copyFrom 117 = .ok (.getfield 31, 3) := by decide +kernel
theorem eX9_copyFrom_120 : decode cX9_copyFrom 120 = .ok (.iconst 0, 1) := by decide +kernel
theorem eX9_copyFrom_121 : decode cX9_copyFrom 121 = .ok (.bipush 40, 2) := by decide +kernel
theorem eX9_copyFrom_123 : decode cX9_copyFrom 123 = .ok (.invokestatic 100, 3) := by decide +kernel
theorem eX9_copyFrom_126 : decode cX9_copyFrom 126 = .ok (.aload_n 1, 1) := by decide +kernel
theorem eX9_copyFrom_127 : decode cX9_copyFrom 127 = .ok (.getfield 34, 3) := by decide +kernel
theorem eX9_copyFrom_130 : decode cX9_copyFrom 130 = .ok (.iconst 0, 1) := by decide +kernel
theorem eX9_copyFrom_131 : decode cX9_copyFrom 131 = .ok (.aload_n 0, 1) := by decide +kernel
theorem eX9_copyFrom_132 : decode cX9_copyFrom 132 = .ok (.getfield 34, 3) := by decide +kernel
theorem eX9_copyFrom_135 : decode cX9_copyFrom 135 = .ok (.iconst 0, 1) := by decide +kernel
theorem eX9_copyFrom_136 : decode cX9_copyFrom 136 = .ok (.bipush 40, 2) := by decide +kernel
theorem eX9_copyFrom_138 : decode cX9_copyFrom 138 = .ok (.invokestatic 100, 3) := by decide +kernel
theorem eX9_copyFrom_141 : decode cX9_copyFrom 141 = .ok (.aload_n 1, 1) := by decide +kernel
theorem eX9_copyFrom_142 : decode cX9_copyFrom 142 = .ok (.getfield 37, 3) := by decide +kernel
theorem eX9_copyFrom_145 : decode cX9_copyFrom 145 = .ok (.iconst 0, 1) := by decide +kernel
theorem eX9_copyFrom_146 : decode cX9_copyFrom 146 = .ok (.aload_n 0, 1) := by decide +kernel
theorem eX9_copyFrom_147 : decode cX9_copyFrom 147 = .ok (.getfield 37, 3) := by decide +kernel
theorem eX9_copyFrom_150 : decode cX9_copyFrom 150 = .ok (.iconst 0, 1) := by decide +kernel
theorem eX9_copyFrom_151 : decode cX9_copyFrom 151 = .ok (.bipush 120, 2) := by decide +kernel
theorem eX9_copyFrom_153 : decode cX9_copyFrom 153 = .ok (.invokestatic 100, 3) := by decide +kernel
theorem eX9_copyFrom_156 : decode cX9_copyFrom 156 = .ok (.aload_n 1, 1) := by decide +kernel
theorem eX9_copyFrom_157 : decode cX9_copyFrom 157 = .ok (.getfield 40, 3) := by decide +kernel
theorem eX9_copyFrom_160 : decode cX9_copyFrom 160 = .ok (.iconst 0, 1) := by decide +kernel
theorem eX9_copyFrom_161 : decode cX9_copyFrom 161 = .ok (.aload_n 0, 1) := by decide +kernel
theorem eX9_copyFrom_162 : decode cX9_copyFrom 162 = .ok (.getfield 40, 3) := by decide +kernel
theorem eX9_copyFrom_165 : decode cX9_copyFrom 165 = .ok (.iconst 0, 1) := by decide +kernel
theorem eX9_copyFrom_166 : decode cX9_copyFrom 166 = .ok (.bipush 40, 2) := by decide +kernel
theorem eX9_copyFrom_168 : decode cX9_copyFrom 168 = .ok (.invokestatic 100, 3) := by decide +kernel
theorem eX9_copyFrom_171 : decode cX9_copyFrom 171 = .ok (.aload_n 1, 1) := by decide +kernel
theorem eX9_copyFrom_172 : decode cX9_copyFrom 172 = .ok (.getfield 43, 3) := by decide +kernel
theorem eX9_copyFrom_175 : decode cX9_copyFrom 175 = .ok (.iconst 0, 1) := by decide +kernel
theorem eX9_copyFrom_176 : decode cX9_copyFrom 176 = .ok (.aload_n 0, 1) := by decide +kernel
theorem eX9_copyFrom_177 : decode cX9_copyFrom 177 = .ok (.getfield 43, 3) := by decide +kernel
theorem eX9_copyFrom_180 : decode cX9_copyFrom 180 = .ok (.iconst 0, 1) := by decide +kernel
theorem eX9_copyFrom_181 : decode cX9_copyFrom 181 = .ok (.bipush 40, 2) := by decide +kernel
theorem eX9_copyFrom_183 : decode cX9_copyFrom 183 = .ok (.invokestatic 100, 3) := by decide +kernel
theorem eX9_copyFrom_186 : decode cX9_copyFrom 186 = .ok (.aload_n 1, 1) := by decide +kernel
theorem eX9_copyFrom_187 : decode cX9_copyFrom 187 = .ok (.getfield 46, 3) := by decide +kernel
theorem eX9_copyFrom_190 : decode cX9_copyFrom 190 = .ok (.iconst 0, 1) := by decide +kernel
theorem eX9_copyFrom_191 : decode cX9_copyFrom 191 = .ok (.aload_n 0, 1) := by decide +kernel
theorem eX9_copyFrom_192 : decode cX9_copyFrom 192 = .ok (.getfield 46, 3) := by decide +kernel
theorem eX9_copyFrom_195 : decode cX9_copyFrom 195 = .ok (.iconst 0, 1) := by decide +kernel
theorem eX9_copyFrom_196 : decode cX9_copyFrom 196 = .ok (.bipush 40, 2) := by decide +kernel
theorem eX9_copyFrom_198 : decode cX9_copyFrom 198 = .ok (.invokestatic 100, 3) := by decide +kernel
theorem eX9_copyFrom_201 : decode cX9_copyFrom 201 = .ok (.aload_n 1, 1) := by decide +kernel
theorem eX9_copyFrom_202 : decode cX9_copyFrom 202 = .ok (.getfield 49, 3) := by decide +kernel
theorem eX9_copyFrom_205 : decode cX9_copyFrom 205 = .ok (.iconst 0, 1) := by decide +kernel
theorem eX9_copyFrom_206 : decode cX9_copyFrom 206 = .ok (.aload_n 0, 1) := by decide +kernel
theorem eX9_copyFrom_207 : decode cX9_copyFrom 207 = .ok (.getfield 49, 3) := by decide +kernel
theorem eX9_copyFrom_210 : decode cX9_copyFrom 210 = .ok (.iconst 0, 1) := by decide +kernel
theorem eX9_copyFrom_211 : decode cX9_copyFrom 211 = .ok (.bipush 40, 2) := by decide +kernel
theorem eX9_copyFrom_213 : decode cX9_copyFrom 213 = .ok (.invokestatic 100, 3) := by decide +kernel
theorem eX9_copyFrom_216 : decode cX9_copyFrom 216 = .ok (.return_, 1) := by decide +kernel
def C_X9_copyFrom (t : Nat) (o : Nat) (s : ST) (Q : ST → Prop) : Prop := bx <| isT t → isT o → RA s → q_met mX9_copyFrom (qs layX s) [.ref t, .ref o] (PV layX Q)
theorem C_X9_copyFrom.mono {t : Nat} {o : Nat} {s : ST} {Q Q' : ST → Prop} (h : C_X9_copyFrom t o s Q) (hq : ∀ s, Q s → Q' s) : C_X9_copyFrom t o s Q' := ⟨fun ht ho hA => q_met.mono (h.1 ht ho hA) (fun _ _ => PV.mono hq), trivial⟩
set_option maxRecDepth 20000 in
theorem s_X9_copyFrom {t : Nat} {o : Nat} {s : ST} {Q : ST → Prop} (h : isT t → isT o → RA s → (C_X9_copyKindWords t o (ui (ui s t 0 (s.1 o 0)) t 1 ((ui s t 0 (s.1 o 0)).1 o 1)) (fun s1 => Q (cpI (cpI (cpI (cpJ (cpI (cpI (cpI (cpI (cpI (cpI (cpI (cpI (cpJ s1 (o + 1) (t + 1) 8) (o + 2) (t + 2) 8) (o + 3) (t + 3) 40) (o + 4) (t + 4) 40) (o + 5) (t + 5) 40) (o + 6) (t + 6) 40) (o + 7) (t + 7) 40) (o + 8) (t + 8) 40) (o + 9) (t + 9) 120) (o + 10) (t + 10) 40) (o + 11) (t + 11) 40) (o + 12) (t + 12) 40) (o + 13) (t + 13) 40)))) : C_X9_copyFrom t o s Q := by
  refine ⟨?_, trivial⟩
  intro ht ho hA
  have h := h ht ho hA
  refine q_enter (by decide) (Nat.le_of_ble_eq_true rfl) ?_
  refine q_aload_n eX9_copyFrom_0 rfl ?_
  refine q_aload_n eX9_copyFrom_1 rfl ?_
  refine q_getf (c := 9) (n := 0) (k := 0) (v := .int (Int32.ofInt (s.1 o 0))) eX9_copyFrom_2 (tl_0 ho) (by decide) (by decide) fX9_55 rfl ?_
  refine z_putI (c := 9) (n := 0) (k := 0) (kz := 0) eX9_copyFrom_5 (tl_0 ht) (by decide) (by decide) fX9_55 rfl rfl rfl ?_
  refine q_aload_n eX9_copyFrom_8 rfl ?_
  refine q_aload_n eX9_copyFrom_9 rfl ?_
  refine q_getf (c := 9) (n := 0) (k := 1) (v := .int (Int32.ofInt ((ui s t 0 (s.1 o 0)).1 o 1))) eX9_copyFrom_10 (tl_0 ho) (by decide) (by decide) fX9_59 rfl ?_
  refine z_putI (c := 9) (n := 0) (k := 1) (kz := 1) eX9_copyFrom_13 (tl_0 ht) (by decide) (by decide) fX9_59 rfl rfl rfl ?_
  refine q_aload_n eX9_copyFrom_16 rfl ?_
  refine q_aload_n eX9_copyFrom_17 rfl ?_
  refine q_V1 (ci := 9) (n := 0) eX9_copyFrom_18 DX9_copyKindWords lX9_106 (tl_0 ht) (by decide) rfl rfl rfl rfl (h.1 ht ho (ra_ui (ra_ui hA (hA _ _)) ((ra_ui hA (hA _ _)) _ _))) ?_
  rintro _ _ ⟨s1, rfl, hA1, rfl, h⟩
  refine q_aload_n eX9_copyFrom_21 rfl ?_
  refine q_getR (c := 9) (n := 0) (k := 3) (a := (o + 1)) eX9_copyFrom_22 (tl_0 ho) (by decide) (by decide) fX9_9 rfl (tr_3 ho) ?_
  refine q_ic (v := Int32.ofInt 0) eX9_copyFrom_25 rfl ?_
  refine q_aload_n eX9_copyFrom_26 rfl ?_
  refine q_getR (c := 9) (n := 0) (k := 3) (a := (t + 1)) eX9_copyFrom_27 (tl_0 ht) (by decide) (by decide) fX9_9 rfl (tr_3 ht) ?_
  refine q_ic (v := Int32.ofInt 0) eX9_copyFrom_30 rfl ?_
  refine q_bi (v := Int32.ofInt 8) eX9_copyFrom_31 rfl ?_
  refine z_copyJ (k := 8) eX9_copyFrom_33 lX9_100 q_ac1 q_ac2 q_ac3 (tl_1 ho) (tl_1 ht) rfl (by decide) (by decide) ⟨Nat.le_of_ble_eq_true rfl, Nat.le_of_ble_eq_true rfl⟩ (q_r8 rfl) ?_
  refine q_aload_n eX9_copyFrom_36 rfl ?_
  refine q_getR (c := 9) (n := 0) (k := 4) (a := (o + 2)) eX9_copyFrom_37 (tl_0 ho) (by decide) (by decide) fX9_15 rfl (tr_4 ho) ?_
  refine q_ic (v := Int32.ofInt 0) eX9_copyFrom_40 rfl ?_
  refine q_aload_n eX9_copyFrom_41 rfl ?_
  refine q_getR (c := 9) (n := 0) (k := 4) (a := (t + 2)) eX9_copyFrom_42 (tl_0 ht) (by decide) (by decide) fX9_15 rfl (tr_4 ht) ?_
  refine q_ic (v := Int32.ofInt 0) eX9_copyFrom_45 rfl ?_
  refine q_bi (v := Int32.ofInt 8) eX9_copyFrom_46 rfl ?_
  refine z_copyI (k := 8) eX9_copyFrom_48 lX9_100 q_ac1 q_ac2 q_ac3 (tl_2 ho) (tl_2 ht) rfl (by decide) (by decide) ⟨Nat.le_of_ble_eq_true rfl, Nat.le_of_ble_eq_true rfl⟩ (q_r8 rfl) ?_
  refine q_aload_n eX9_copyFrom_51 rfl ?_
  refine q_getR (c := 9) (n := 0) (k := 5) (a := (o + 3)) eX9_copyFrom_52 (tl_0 ho) (by decide) (by decide) fX9_19 rfl (tr_5 ho) ?_
  refine q_ic (v := Int32.ofInt 0) eX9_copyFrom_55 rfl ?_
  refine q_aload_n eX9_copyFrom_56 rfl ?_
  refine q_getR (c := 9) (n := 0) (k := 5) (a := (t + 3)) eX9_copyFrom_57 (tl_0 ht) (by decide) (by decide) fX9_19 rfl (tr_5 ht) ?_
  refine q_ic (v := Int32.ofInt 0) eX9_copyFrom_60 rfl ?_
  refine q_bi (v := Int32.ofInt 40) eX9_copyFrom_61 rfl ?_
  refine z_copyI (k := 40) eX9_copyFrom_63 lX9_100 q_ac1 q_ac2 q_ac3 (tl_3 ho) (tl_3 ht) rfl (by decide) (by decide) ⟨Nat.le_of_ble_eq_true rfl, Nat.le_of_ble_eq_true rfl⟩ (q_r8 rfl) ?_
  refine q_aload_n eX9_copyFrom_66 rfl ?_
  refine q_getR (c := 9) (n := 0) (k := 6) (a := (o + 4)) eX9_copyFrom_67 (tl_0 ho) (by decide) (by decide) fX9_22 rfl (tr_6 ho) ?_
  refine q_ic (v := Int32.ofInt 0) eX9_copyFrom_70 rfl ?_
  refine q_aload_n eX9_copyFrom_71 rfl ?_
  refine q_getR (c := 9) (n := 0) (k := 6) (a := (t + 4)) eX9_copyFrom_72 (tl_0 ht) (by decide) (by decide) fX9_22 rfl (tr_6 ht) ?_
  refine q_ic (v := Int32.ofInt 0) eX9_copyFrom_75 rfl ?_
  refine q_bi (v := Int32.ofInt 40) eX9_copyFrom_76 rfl ?_
  refine z_copyI (k := 40) eX9_copyFrom_78 lX9_100 q_ac1 q_ac2 q_ac3 (tl_4 ho) (tl_4 ht) rfl (by decide) (by decide) ⟨Nat.le_of_ble_eq_true rfl, Nat.le_of_ble_eq_true rfl⟩ (q_r8 rfl) ?_
  refine q_aload_n eX9_copyFrom_81 rfl ?_
  refine q_getR (c := 9) (n := 0) (k := 7) (a := (o + 5)) eX9_copyFrom_82 (tl_0 ho) (by decide) (by decide) fX9_25 rfl (tr_7 ho) ?_
  refine q_ic (v := Int32.ofInt 0) eX9_copyFrom_85 rfl ?_
  refine q_aload_n eX9_copyFrom_86 rfl ?_
  refine q_getR (c := 9) (n := 0) (k := 7) (a := (t + 5)) eX9_copyFrom_87 (tl_0 ht) (by decide) (by decide) fX9_25 rfl (tr_7 ht) ?_
  refine q_ic (v := Int32.ofInt 0) eX9_copyFrom_90 rfl ?_
  refine q_bi (v := Int32.ofInt 40) eX9_copyFrom_91 rfl ?_
  refine z_copyI (k := 40) eX9_copyFrom_93 lX9_100 q_ac1 q_ac2 q_ac3 (tl_5 ho) (tl_5 ht) rfl (by decide) (by decide) ⟨Nat.le_of_ble_eq_true rfl, Nat.le_of_ble_eq_true rfl⟩ (q_r8 rfl) ?_
  refine q_aload_n eX9_copyFrom_96 rfl ?_
  refine q_getR (c := 9) (n := 0) (k := 8) (a := (o + 6)) eX9_copyFrom_97 (tl_0 ho) (by decide) (by decide) fX9_28 rfl (tr_8 ho) ?_
  refine q_ic (v := Int32.ofInt 0) eX9_copyFrom_100 rfl ?_
  refine q_aload_n eX9_copyFrom_101 rfl ?_
  refine q_getR (c := 9) (n := 0) (k := 8) (a := (t + 6)) eX9_copyFrom_102 (tl_0 ht) (by decide) (by decide) fX9_28 rfl (tr_8 ht) ?_
  refine q_ic (v := Int32.ofInt 0) eX9_copyFrom_105 rfl ?_
  refine q_bi (v := Int32.ofInt 40) eX9_copyFrom_106 rfl ?_
  refine z_copyI (k := 40) eX9_copyFrom_108 lX9_100 q_ac1 q_ac2 q_ac3 (tl_6 ho) (tl_6 ht) rfl (by decide) (by decide) ⟨Nat.le_of_ble_eq_true rfl, Nat.le_of_ble_eq_true rfl⟩ (q_r8 rfl) ?_
  refine q_aload_n eX9_copyFrom_111 rfl ?_
  refine q_getR (c := 9) (n := 0) (k := 9) (a := (o + 7)) eX9_copyFrom_112 (tl_0 ho) (by decide) (by decide) fX9_31 rfl (tr_9 ho) ?_
  refine q_ic (v := Int32.ofInt 0) eX9_copyFrom_115 rfl ?_
  refine q_aload_n eX9_copyFrom_116 rfl ?_
  refine q_getR (c := 9) (n := 0) (k := 9) (a := (t + 7)) eX9_copyFrom_117 (tl_0 ht) (by decide) (by decide) fX9_31 rfl (tr_9 ht) ?_
  refine q_ic (v := Int32.ofInt 0) eX9_copyFrom_120 rfl ?_
  refine q_bi (v := Int32.ofInt 40) eX9_copyFrom_121 rfl ?_
  refine z_copyI (k := 40) eX9_copyFrom_123 lX9_100 q_ac1 q_ac2 q_ac3 (tl_7 ho) (tl_7 ht) rfl (by decide) (by decide) ⟨Nat.le_of_ble_eq_true rfl, Nat.le_of_ble_eq_true rfl⟩ (q_r8 rfl) ?_
  refine q_aload_n eX9_copyFrom_126 rfl ?_
  refine q_getR (c := 9) (n := 0) (k := 10) (a := (o + 8)) eX9_copyFrom_127 (tl_0 ho) (by decide) (by decide) fX9_34 rfl (tr_10 ho) ?_
  refine q_ic (v := Int32.ofInt 0) eX9_copyFrom_130 rfl ?_
  refine q_aload_n eX9_copyFrom_131 rfl ?_
  refine q_getR (c := 9) (n := 0) (k := 10) (a := (t + 8)) eX9_copyFrom_132 (tl_0 ht) (by decide) (by decide) fX9_34 rfl (tr_10 ht) ?_
  refine q_ic (v := Int32.ofInt 0) eX9_copyFrom_135 rfl ?_
  refine q_bi (v := Int32.ofInt 40) eX9_copyFrom_136 rfl ?_
  refine z_copyI (k := 40) eX9_copyFrom_138 lX9_100 q_ac1 q_ac2 q_ac3 (tl_8 ho) (tl_8 ht) rfl (by decide) (by decide) ⟨Nat.le_of_ble_eq_true rfl, Nat.le_of_ble_eq_true rfl⟩ (q_r8 rfl) ?_
  refine q_aload_n eX9_copyFrom_141 rfl ?_
  refine q_getR (c := 9) (n := 0) (k := 11) (a := (o + 9)) eX9_copyFrom_142 (tl_0 ho) (by decide) (by decide) fX9_37 rfl (tr_11 ho) ?_
  refine q_ic (v := Int32.ofInt 0) eX9_copyFrom_145 rfl ?_
  refine q_aload_n eX9_copyFrom_146 rfl ?_
  refine q_getR (c := 9) (n := 0) (k := 11) (a := (t + 9)) eX9_copyFrom_147 (tl_0 ht) (by decide) (by decide) fX9_37 rfl (tr_11 ht) ?_
  refine q_ic (v := Int32.ofInt 0) eX9_copyFrom_150 rfl ?_
  refine q_bi (v := Int32.ofInt 120) eX9_copyFrom_151 rfl ?_
  refine z_copyI (k := 120) eX9_copyFrom_153 lX9_100 q_ac1 q_ac2 q_ac3 (tl_9 ho) (tl_9 ht) rfl (by decide) (by decide) ⟨Nat.le_of_ble_eq_true rfl, Nat.le_of_ble_eq_true rfl⟩ (q_r8 rfl) ?_
  refine q_aload_n eX9_copyFrom_156 rfl ?_
  refine q_getR (c := 9) (n := 0) (k := 12) (a := (o + 10)) eX9_copyFrom_157 (tl_0 ho) (by decide) (by decide) fX9_40 rfl (tr_12 ho) ?_
  refine q_ic (v := Int32.ofInt 0) eX9_copyFrom_160 rfl ?_
  refine q_aload_n eX9_copyFrom_161 rfl ?_
  refine q_getR (c := 9) (n := 0) (k := 12) (a := (t + 10)) eX9_copyFrom_162 (tl_0 ht) (by decide) (by decide) fX9_40 rfl (tr_12 ht) ?_
  refine q_ic (v := Int32.ofInt 0) eX9_copyFrom_165 rfl ?_
  refine q_bi (v := Int32.ofInt 40) eX9_copyFrom_166 rfl ?_
  refine z_copyJ (k := 40) eX9_copyFrom_168 lX9_100 q_ac1 q_ac2 q_ac3 (tl_10 ho) (tl_10 ht) rfl (by decide) (by decide) ⟨Nat.le_of_ble_eq_true rfl, Nat.le_of_ble_eq_true rfl⟩ (q_r8 rfl) ?_
  refine q_aload_n eX9_copyFrom_171 rfl ?_
  refine q_getR (c := 9) (n := 0) (k := 13) (a := (o + 11)) eX9_copyFrom_172 (tl_0 ho) (by decide) (by decide) fX9_43 rfl (tr_13 ho) ?_
  refine q_ic (v := Int32.ofInt 0) eX9_copyFrom_175 rfl ?_
  refine q_aload_n eX9_copyFrom_176 rfl ?_
  refine q_getR (c := 9) (n := 0) (k := 13) (a := (t + 11)) eX9_copyFrom_177 (tl_0 ht) (by decide) (by decide) fX9_43 rfl (tr_13 ht) ?_
  refine q_ic (v := Int32.ofInt 0) eX9_copyFrom_180 rfl ?_
  refine q_bi (v := Int32.ofInt 40) eX9_copyFrom_181 rfl ?_
  refine z_copyI (k := 40) eX9_copyFrom_183 lX9_100 q_ac1 q_ac2 q_ac3 (tl_11 ho) (tl_11 ht) rfl (by decide) (by decide) ⟨Nat.le_of_ble_eq_true rfl, Nat.le_of_ble_eq_true rfl⟩ (q_r8 rfl) ?_
  refine q_aload_n eX9_copyFrom_186 rfl ?_
  refine q_getR (c := 9) (n := 0) (k := 14) (a := (o + 12)) eX9_copyFrom_187 (tl_0 ho) (by decide) (by decide) fX9_46 rfl (tr_14 ho) ?_
  refine q_ic (v := Int32.ofInt 0) eX9_copyFrom_190 rfl ?_
  refine q_aload_n eX9_copyFrom_191 rfl ?_
  refine q_getR (c := 9) (n := 0) (k := 14) (a := (t + 12)) eX9_copyFrom_192 (tl_0 ht) (by decide) (by decide) fX9_46 rfl (tr_14 ht) ?_
  refine q_ic (v := Int32.ofInt 0) eX9_copyFrom_195 rfl ?_
  refine q_bi (v := Int32.ofInt 40) eX9_copyFrom_196 rfl ?_
  refine z_copyI (k := 40) eX9_copyFrom_198 lX9_100 q_ac1 q_ac2 q_ac3 (tl_12 ho) (tl_12 ht) rfl (by decide) (by decide) ⟨Nat.le_of_ble_eq_true rfl, Nat.le_of_ble_eq_true rfl⟩ (q_r8 rfl) ?_
  refine q_aload_n eX9_copyFrom_201 rfl ?_
  refine q_getR (c := 9) (n := 0) (k := 15) (a := (o + 13)) eX9_copyFrom_202 (tl_0 ho) (by decide) (by decide) fX9_49 rfl (tr_15 ho) ?_
  refine q_ic (v := Int32.ofInt 0) eX9_copyFrom_205 rfl ?_
  refine q_aload_n eX9_copyFrom_206 rfl ?_
  refine q_getR (c := 9) (n := 0) (k := 15) (a := (t + 13)) eX9_copyFrom_207 (tl_0 ht) (by decide) (by decide) fX9_49 rfl (tr_15 ht) ?_
  refine q_ic (v := Int32.ofInt 0) eX9_copyFrom_210 rfl ?_
  refine q_bi (v := Int32.ofInt 40) eX9_copyFrom_211 rfl ?_
  refine z_copyI (k := 40) eX9_copyFrom_213 lX9_100 q_ac1 q_ac2 q_ac3 (tl_13 ho) (tl_13 ht) rfl (by decide) (by decide) ⟨Nat.le_of_ble_eq_true rfl, Nat.le_of_ble_eq_true rfl⟩ (q_r8 rfl) ?_
  exact q_ret eX9_copyFrom_216 rfl ⟨_, rfl, (ra_cpI (ra_cpI (ra_cpI (ra_cpJ (ra_cpI (ra_cpI (ra_cpI (ra_cpI (ra_cpI (ra_cpI (ra_cpI (ra_cpI (ra_cpJ hA1))))))))))))), rfl, h⟩
theorem eX10_tapeNumber_0 : decode cX10_tapeNumber 0 = .ok (.bipush 24, 2) := by decide +kernel
theorem eX10_tapeNumber_2 : decode cX10_tapeNumber 2 = .ok (.istore_n 2, 1) := by decide +kernel
theorem eX10_tapeNumber_3 : decode cX10_tapeNumber 3 = .ok (.iload_n 2, 1) := by decide +kernel
theorem eX10_tapeNumber_4 : decode cX10_tapeNumber 4 = .ok (.ifCond .lt 51, 3) := by decide +kernel
theorem eX10_tapeNumber_7 : decode cX10_tapeNumber 7 = .ok (.aload_n 0, 1) := by decide +kernel
theorem eX10_tapeNumber_8 : decode cX10_tapeNumber 8 = .ok (.getfield 107, 3) := by decide +kernel
theorem eX10_tapeNumber_11 : decode cX10_tapeNumber 11 = .ok (.ifCond .lt 38, 3) := by decide +kernel
theorem eX10_tapeNumber_14 : decode cX10_tapeNumber 14 = .ok (.aload_n 0, 1) := by decide +kernel
theorem eX10_tapeNumber_15 : decode cX10_tapeNumber 15 = .ok (.getfield 107, 3) := by decide +kernel
theorem eX10_tapeNumber_18 : decode cX10_tapeNumber 18 = .ok (.aload_n 0, 1) := by decide +kernel
theorem eX10_tapeNumber_19 : decode cX10_tapeNumber 19 = .ok (.getfield 9, 3) := by decide +kernel
theorem eX10_tapeNumber_22 : decode cX10_tapeNumber 22 = .ok (.arraylength, 1) := by decide +kernel
theorem eX10_tapeNumber_23 : decode cX10_tapeNumber 23 = .ok (.if_icmp .ge 26, 3) := by decide +kernel
theorem eX10_tapeNumber_26 : decode cX10_tapeNumber 26 = .ok (.aload_n 0, 1) := by decide +kernel
theorem eX10_tapeNumber_27 : decode cX10_tapeNumber 27 = .ok (.getfield 9, 3) := by decide +kernel
theorem eX10_tapeNumber_30 : decode cX10_tapeNumber 30 = .ok (.aload_n 0, 1) := by decide +kernel
theorem eX10_tapeNumber_31 : decode cX10_tapeNumber 31 = .ok (.getfield 107, 3) := by decide +kernel
theorem eX10_tapeNumber_34 : decode cX10_tapeNumber 34 = .ok (.iload_n 1, 1) := by decide +kernel
theorem eX10_tapeNumber_35 : decode cX10_tapeNumber 35 = .ok (.iload_n 2, 1) := by decide +kernel
theorem eX10_tapeNumber_36 : decode cX10_tapeNumber 36 = .ok (.iushr, 1) := by decide +kernel
theorem eX10_tapeNumber_37 : decode cX10_tapeNumber 37 = .ok (.i2b, 1) := by decide +kernel
theorem eX10_tapeNumber_38 : decode cX10_tapeNumber 38 = .ok (.bastore, 1) := by decide +kernel
theorem eX10_tapeNumber_39 : decode cX10_tapeNumber 39 = .ok (.aload_n 0, 1) := by decide +kernel
theorem eX10_tapeNumber_40 : decode cX10_tapeNumber 40 = .ok (.dup, 1) := by decide +kernel
theorem eX10_tapeNumber_41 : decode cX10_tapeNumber 41 = .ok (.getfield 107, 3) := by decide +kernel
theorem eX10_tapeNumber_44 : decode cX10_tapeNumber 44 = .ok (.iconst 1, 1) := by decide +kernel
theorem eX10_tapeNumber_45 : decode cX10_tapeNumber 45 = .ok (.iadd, 1) := by decide +kernel
theorem eX10_tapeNumber_46 : decode cX10_tapeNumber 46 = .ok (.putfield 107, 3) := by decide +kernel
theorem eX10_tapeNumber_49 : decode cX10_tapeNumber 49 = .ok (.iinc 2 (-8), 3) := by decide +kernel
theorem eX10_tapeNumber_52 : decode cX10_tapeNumber 52 = .ok (.goto (-49), 3) := by decide +kernel
theorem eX10_tapeNumber_55 : decode cX10_tapeNumber 55 = .ok (.return_, 1) := by decide +kernel
def C_X10_tapeNumber (s : ST) (p : Int) (Q : ST → Prop) : Prop := bx <| RA s → R32 p → q_met mX10_tapeNumber (qs layX s) [.ref 0, .int (Int32.ofInt p)] (PV layX Q)
theorem C_X10_tapeNumber.mono {s : ST} {p : Int} {Q Q' : ST → Prop} (h : C_X10_tapeNumber s p Q) (hq : ∀ s, Q s → Q' s) : C_X10_tapeNumber s p Q' := ⟨fun hA hrp => q_met.mono (h.1 hA hrp) (fun _ _ => PV.mono hq), trivial⟩
def K_X10_tapeNumber_3 (s : ST) (a1 : Int) (a2 : Int) (Q : ST → Prop) : Prop := bx <| RA s → R32 a1 → R32 a2 → q_K mX10_tapeNumber (qs layX s) 0 0 3 [(0, .ref 0), (1, .int (Int32.ofInt a1)), (2, .int (Int32.ofInt a2))] [] (q_fin mX10_tapeNumber (PV layX Q))
set_option maxRecDepth 20000 in
theorem s_X10_tapeNumber_3 {s : ST} {a1 : Int} {a2 : Int} {Q : ST → Prop} (h : RA s → R32 a1 → R32 a2 → ((a2 < 0 → Q s) ∧ (¬ a2 < 0 → ((s.1 0 1 < 0 → (R32 (a2 - 8) ∧ K_X10_tapeNumber_3 s a1 (a2 - 8) Q)) ∧ (¬ s.1 0 1 < 0 → ((1600 ≤ s.1 0 1 → (R32 (a2 - 8) ∧ K_X10_tapeNumber_3 s a1 (a2 - 8) Q)) ∧ (¬ 1600 ≤ s.1 0 1 → (((0 : Int) ≤ s.1 0 1 ∧ s.1 0 1 < 1600) ∧ (R32 (s.1 0 1 + 1) ∧ (R32 (a2 - 8) ∧ K_X10_tapeNumber_3 (ui (ui s 1 (s.1 0 1) (i8 (i8 (iushr a1 a2)))) 0 1 (s.1 0 1 + 1)) a1 (a2 - 8) Q)))))))))) : K_X10_tapeNumber_3 s a1 a2 Q := by
  refine ⟨?_, trivial⟩
  intro hA hra1 hra2
  have h := h hA hra1 hra2
  refine q_iload_n eX10_tapeNumber_3 rfl ?_
  refine q_iz_lt (tgt := 55) (a := a2) eX10_tapeNumber_4 (by decide) (ofz hra2) (fun c4 => ?_) (fun c4 => ?_)
  · have h := h.1 c4
    exact q_ret eX10_tapeNumber_55 rfl ⟨_, rfl, hA, rfl, h⟩
  · have h := h.2 c4
    refine q_aload_n eX10_tapeNumber_7 rfl ?_
    refine q_getf (c := 10) (n := 0) (k := 1) (v := .int (Int32.ofInt (s.1 0 1))) eX10_tapeNumber_8 rfl (by decide) (by decide) fX10_107 rfl ?_
    refine q_iz_lt (tgt := 49) (a := s.1 0 1) eX10_tapeNumber_11 (by decide) (ofz (hA _ _)) (fun c11 => ?_) (fun c11 => ?_)
    · have h := h.1 c11
      have r1 := h.1
      have h := h.2
      refine z_incN (m := 8) eX10_tapeNumber_49 rfl (Nat.le_of_ble_eq_true rfl) rfl ?_
      refine q_goto (tgt := 3) eX10_tapeNumber_52 (by decide) ?_
      exact q_subL rfl (h.1 hA hra1 r1)
    · have h := h.2 c11
      refine q_aload_n eX10_tapeNumber_14 rfl ?_
      refine q_getf (c := 10) (n := 0) (k := 1) (v := .int (Int32.ofInt (s.1 0 1))) eX10_tapeNumber_15 rfl (by decide) (by decide) fX10_107 rfl ?_
      refine q_aload_n eX10_tapeNumber_18 rfl ?_
      refine q_getR (c := 10) (n := 0) (k := 0) (a := 1) eX10_tapeNumber_19 rfl (by decide) (by decide) fX10_9 rfl rfl ?_
      refine q_alenz (v := Int32.ofInt 1600) eX10_tapeNumber_22 rfl rfl rfl ?_
      refine q_cz_ge (tgt := 49) (a := s.1 0 1) (b := 1600) eX10_tapeNumber_23 (by decide) (ofz (hA _ _)) (ofz (r32l rfl)) (fun c23 => ?_) (fun c23 => ?_)
      · have h := h.1 c23
        have r2 := h.1
        have h := h.2
        refine z_incN (m := 8) eX10_tapeNumber_49 rfl (Nat.le_of_ble_eq_true rfl) rfl ?_
        refine q_goto (tgt := 3) eX10_tapeNumber_52 (by decide) ?_
        exact q_subL rfl (h.1 hA hra1 r2)
      · have h := h.2 c23
        refine q_aload_n eX10_tapeNumber_26 rfl ?_
        refine q_getR (c := 10) (n := 0) (k := 0) (a := 1) eX10_tapeNumber_27 rfl (by decide) (by decide) fX10_9 rfl rfl ?_
        refine q_aload_n eX10_tapeNumber_30 rfl ?_
        refine q_getf (c := 10) (n := 0) (k := 1) (v := .int (Int32.ofInt (s.1 0 1))) eX10_tapeNumber_31 rfl (by decide) (by decide) fX10_107 rfl ?_
        refine q_iload_n eX10_tapeNumber_34 rfl ?_
        refine q_iload_n eX10_tapeNumber_35 rfl ?_
        refine z_iushr eX10_tapeNumber_36 ?_
        refine z_i2b eX10_tapeNumber_37 ?_
        have f3 := h.1
        have h := h.2
        refine z_bast (n := 1600) eX10_tapeNumber_38 rfl (ofz (hA _ _)) f3  ?_
        refine q_aload_n eX10_tapeNumber_39 rfl ?_
        refine q_dup eX10_tapeNumber_40 rfl ?_
        refine q_getf (c := 10) (n := 0) (k := 1) (v := .int (Int32.ofInt (s.1 0 1))) eX10_tapeNumber_41 rfl (by decide) (by decide) fX10_107 rfl ?_
        refine q_ic (v := Int32.ofInt 1) eX10_tapeNumber_44 rfl ?_
        refine z_iadd eX10_tapeNumber_45 ?_
        have r4 := h.1
        have h := h.2
        refine z_putI (c := 10) (n := 0) (k := 1) (kz := 1) eX10_tapeNumber_46 rfl (by decide) (by decide) fX10_107 rfl rfl rfl ?_
        have r5 := h.1
        have h := h.2
        refine z_incN (m := 8) eX10_tapeNumber_49 rfl (Nat.le_of_ble_eq_true rfl) rfl ?_
        refine q_goto (tgt := 3) eX10_tapeNumber_52 (by decide) ?_
        exact q_subL rfl (h.1 (ra_ui (ra_ui hA (i8_r _)) r4) hra1 r5)
set_option maxRecDepth 20000 in
theorem s_X10_tapeNumber {s : ST} {p : Int} {Q : ST → Prop} (h : RA s → R32 p → K_X10_tapeNumber_3 s p 24 Q) : C_X10_tapeNumber s p Q := by
  refine ⟨?_, trivial⟩
  intro hA hrp
  have h := h hA hrp
  refine q_enter (by decide) (Nat.le_of_ble_eq_true rfl) ?_
  refine q_bi (v := Int32.ofInt 24) eX10_tapeNumber_0 rfl ?_
  refine q_istore_n eX10_tapeNumber_2 (Nat.le_of_ble_eq_true rfl) ?_
  exact q_subL rfl (h.1 hA hrp (r32l rfl))
