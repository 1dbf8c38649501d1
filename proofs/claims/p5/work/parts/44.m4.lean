/-! STEP ROWS of the reference. By program (wip/wp/gen_parts.py). -/
theorem eX11_find_0 : decode cX11_find 0 = .ok (.iload_n 1, 1) := by decide +kernel
theorem eX11_find_1 : decode cX11_find 1 = .ok (.istore_n 2, 1) := by decide +kernel
theorem eX11_find_2 : decode cX11_find 2 = .ok (.aload_n 0, 1) := by decide +kernel
theorem eX11_find_3 : decode cX11_find 3 = .ok (.getfield 88, 3) := by decide +kernel
theorem eX11_find_6 : decode cX11_find 6 = .ok (.iload_n 2, 1) := by decide +kernel
theorem eX11_find_7 : decode cX11_find 7 = .ok (.iaload, 1) := by decide +kernel
theorem eX11_find_8 : decode cX11_find 8 = .ok (.iload_n 2, 1) := by decide +kernel
theorem eX11_find_9 : decode cX11_find 9 = .ok (.if_icmp .eq 13, 3) := by decide +kernel
theorem eX11_find_12 : decode cX11_find 12 = .ok (.aload_n 0, 1) := by decide +kernel
theorem eX11_find_13 : decode cX11_find 13 = .ok (.getfield 88, 3) := by decide +kernel
theorem eX11_find_16 : decode cX11_find 16 = .ok (.iload_n 2, 1) := by decide +kernel
theorem eX11_find_17 : decode cX11_find 17 = .ok (.iaload, 1) := by decide +kernel
theorem eX11_find_18 : decode cX11_find 18 = .ok (.istore_n 2, 1) := by decide +kernel
theorem eX11_find_19 : decode cX11_find 19 = .ok (.goto (-17), 3) := by decide +kernel
theorem eX11_find_22 : decode cX11_find 22 = .ok (.iload_n 2, 1) := by decide +kernel
theorem eX11_find_23 : decode cX11_find 23 = .ok (.ireturn, 1) := by decide +kernel
def C_X11_find (s : ST) (p : Int) (Q : ST → Int → Prop) : Prop := bx <| RA s → R32 p → q_met mX11_find (qs layM s) [.ref 139, .int (Int32.ofInt p)] (PI layM Q)
theorem C_X11_find.mono {s : ST} {p : Int} {Q Q' : ST → Int → Prop} (h : C_X11_find s p Q) (hq : ∀ s v, Q s v → Q' s v) : C_X11_find s p Q' := ⟨fun hA hrp => q_met.mono (h.1 hA hrp) (fun _ _ => PI.mono hq), trivial⟩
def K_X11_find_2 (s : ST) (a2 : Int) (Q : ST → Int → Prop) : Prop := bx <| RA s → R32 a2 → q_K mX11_find (qs layM s) 0 0 2 [(0, .ref 139), (2, .int (Int32.ofInt a2))] [] (q_fin mX11_find (PI layM Q))
set_option maxRecDepth 20000 in
theorem s_X11_find_2 {s : ST} {a2 : Int} {Q : ST → Int → Prop} (h : RA s → R32 a2 → (((0 : Int) ≤ a2 ∧ a2 < 12000) ∧ ((s.1 164 a2 = a2 → Q s a2) ∧ (¬ s.1 164 a2 = a2 → K_X11_find_2 s (s.1 164 a2) Q)))) : K_X11_find_2 s a2 Q := by
  refine ⟨?_, trivial⟩
  intro hA hra2
  have h := h hA hra2
  refine q_aload_n eX11_find_2 rfl ?_
  refine q_getR (c := 11) (n := 0) (k := 36) (a := 164) eX11_find_3 rfl (by decide) (by decide) fX11_88 rfl rfl ?_
  refine q_iload_n eX11_find_6 rfl ?_
  have f1 := h.1
  have h := h.2
  refine z_iald (n := 12000) eX11_find_7 rfl (ofz hra2) f1 ?_
  refine q_topI (v := Int32.ofInt (s.1 164 a2)) rfl ?_
  refine q_iload_n eX11_find_8 rfl ?_
  refine q_cz_eq (tgt := 22) (a := s.1 164 a2) (b := a2) eX11_find_9 (by decide) (ofz (hA _ _)) (ofz hra2) (fun c9 => ?_) (fun c9 => ?_)
  · have h := h.1 c9
    refine q_iload_n eX11_find_22 rfl ?_
    exact q_iret eX11_find_23 rfl ⟨_, _, rfl, hA, hra2, rfl, h⟩
  · have h := h.2 c9
    refine q_aload_n eX11_find_12 rfl ?_
    refine q_getR (c := 11) (n := 0) (k := 36) (a := 164) eX11_find_13 rfl (by decide) (by decide) fX11_88 rfl rfl ?_
    refine q_iload_n eX11_find_16 rfl ?_
    refine z_iald (n := 12000) eX11_find_17 rfl (ofz hra2) f1 ?_
    refine q_topI (v := Int32.ofInt (s.1 164 a2)) rfl ?_
    refine q_istore_n eX11_find_18 (Nat.le_of_ble_eq_true rfl) ?_
    refine q_goto (tgt := 2) eX11_find_19 (by decide) ?_
    exact q_subL rfl (h.1 hA (hA _ _))
set_option maxRecDepth 20000 in
theorem s_X11_find {s : ST} {p : Int} {Q : ST → Int → Prop} (h : RA s → R32 p → K_X11_find_2 s p Q) : C_X11_find s p Q := by
  refine ⟨?_, trivial⟩
  intro hA hrp
  have h := h hA hrp
  refine q_enter (by decide) (Nat.le_of_ble_eq_true rfl) ?_
  refine q_iload_n eX11_find_0 rfl ?_
  refine q_istore_n eX11_find_1 (Nat.le_of_ble_eq_true rfl) ?_
  exact q_subL rfl (h.1 hA hrp)
theorem eX11_isMade_0 : decode cX11_isMade 0 = .ok (.iload_n 0, 1) := by decide +kernel
theorem eX11_isMade_1 : decode cX11_isMade 1 = .ok (.iconst 2, 1) := by decide +kernel
theorem eX11_isMade_2 : decode cX11_isMade 2 = .ok (.if_icmp .le 7, 3) := by decide +kernel
theorem eX11_isMade_5 : decode cX11_isMade 5 = .ok (.iconst 1, 1) := by decide +kernel
theorem eX11_isMade_6 : decode cX11_isMade 6 = .ok (.goto 4, 3) := by decide +kernel
theorem eX11_isMade_9 : decode cX11_isMade 9 = .ok (.iconst 0, 1) := by decide +kernel
theorem eX11_isMade_10 : decode cX11_isMade 10 = .ok (.ireturn, 1) := by decide +kernel
def C_X11_isMade (s : ST) (p : Int) (Q : ST → Int → Prop) : Prop := bx <| RA s → R32 p → q_met mX11_isMade (qs layM s) [.int (Int32.ofInt p)] (PB layM Q)
theorem C_X11_isMade.mono {s : ST} {p : Int} {Q Q' : ST → Int → Prop} (h : C_X11_isMade s p Q) (hq : ∀ s v, Q s v → Q' s v) : C_X11_isMade s p Q' := ⟨fun hA hrp => q_met.mono (h.1 hA hrp) (fun _ _ => PB.mono hq), trivial⟩
set_option maxRecDepth 20000 in
theorem s_X11_isMade {s : ST} {p : Int} {Q : ST → Int → Prop} (h : RA s → R32 p → ((p ≤ 2 → Q s 0) ∧ (¬ p ≤ 2 → Q s 1))) : C_X11_isMade s p Q := by
  refine ⟨?_, trivial⟩
  intro hA hrp
  have h := h hA hrp
  refine q_enter (by decide) (Nat.le_of_ble_eq_true rfl) ?_
  refine q_iload_n eX11_isMade_0 rfl ?_
  refine q_ic (v := Int32.ofInt 2) eX11_isMade_1 rfl ?_
  refine q_cz_le (tgt := 9) (a := p) (b := 2) eX11_isMade_2 (by decide) (ofz hrp) (ofz (r32l rfl)) (fun c2 => ?_) (fun c2 => ?_)
  · have h := h.1 c2
    refine q_ic (v := Int32.ofInt 0) eX11_isMade_9 rfl ?_
    exact q_zret eX11_isMade_10 rfl (z01 (Or.inl rfl)) ⟨_, _, rfl, hA, (Or.inl rfl), rfl, h⟩
  · have h := h.2 c2
    refine q_ic (v := Int32.ofInt 1) eX11_isMade_5 rfl ?_
    refine q_goto (tgt := 10) eX11_isMade_6 (by decide) ?_
    exact q_zret eX11_isMade_10 rfl (z01 (Or.inr rfl)) ⟨_, _, rfl, hA, (Or.inr rfl), rfl, h⟩
def F_X11_isMade (s : ST) (p : Int) : Int := (if p ≤ 2 then 0 else 1)
theorem w_X11_isMade {s : ST} {p : Int} : C_X11_isMade s p (fun s' v => s' = s ∧ v = F_X11_isMade s p) := by
  refine s_X11_isMade (fun hA hrp => ?_)
  refine ⟨fun e0 => ?_, fun e0 => ?_⟩
  · exact ⟨rfl, by unfold F_X11_isMade; rw [if_pos e0]⟩
  · exact ⟨rfl, by unfold F_X11_isMade; rw [if_neg e0]⟩
theorem p_X11_isMade {s : ST} {p : Int} : RA s → R32 p → q_met mX11_isMade (qs layM s) [.int (Int32.ofInt p)] (fun σ r => (F_X11_isMade s p = 0 ∨ F_X11_isMade s p = 1) ∧ σ = qs layM s ∧ r = some (.int (Int32.ofInt (F_X11_isMade s p)))) := fun hA hrp => q_met.mono ((w_X11_isMade).1 hA hrp) (by
  rintro _ _ ⟨s1, v1, rfl, h1, h2, rfl, rfl, rfl⟩
  exact ⟨h2, rfl, rfl⟩)
theorem n_X11_isMade {s : ST} {p : Int} : ¬ F_X11_isMade s p = 0 ↔ ¬ p ≤ 2 := by
  unfold F_X11_isMade
  first | omega | ((repeat' split) <;> simp_all) | ((repeat' split) <;> (simp_all <;> omega))
theorem eX11_unite_0 : decode cX11_unite 0 = .ok (.iconst 2, 1) := by decide +kernel
theorem eX11_unite_1 : decode cX11_unite 1 = .ok (.istore_n 3, 1) := by decide +kernel
theorem eX11_unite_2 : decode cX11_unite 2 = .ok (.aload_n 0, 1) := by decide +kernel
theorem eX11_unite_3 : decode cX11_unite 3 = .ok (.getfield 94, 3) := by decide +kernel
theorem eX11_unite_6 : decode cX11_unite 6 = .ok (.iconst 0, 1) := by decide +kernel
theorem eX11_unite_7 : decode cX11_unite 7 = .ok (.iload_n 1, 1) := by decide +kernel
theorem eX11_unite_8 : decode cX11_unite 8 = .ok (.iastore, 1) := by decide +kernel
theorem eX11_unite_9 : decode cX11_unite 9 = .ok (.aload_n 0, 1) := by decide +kernel
theorem eX11_unite_10 : decode cX11_unite 10 = .ok (.getfield 94, 3) := by decide +kernel
theorem eX11_unite_13 : decode cX11_unite 13 = .ok (.iconst 1, 1) := by decide +kernel
theorem eX11_unite_14 : decode cX11_unite 14 = .ok (.iload_n 2, 1) := by decide +kernel
theorem eX11_unite_15 : decode cX11_unite 15 = .ok (.iastore, 1) := by decide +kernel
theorem eX11_unite_16 : decode cX11_unite 16 = .ok (.iload_n 3, 1) := by decide +kernel
theorem eX11_unite_17 : decode cX11_unite 17 = .ok (.ifCond .le 213, 3) := by decide +kernel
theorem eX11_unite_20 : decode cX11_unite 20 = .ok (.aload_n 0, 1) := by decide +kernel
theorem eX11_unite_21 : decode cX11_unite 21 = .ok (.aload_n 0, 1) := by decide +kernel
theorem eX11_unite_22 : decode cX11_unite 22 = .ok (.getfield 94, 3) := by decide +kernel
theorem eX11_unite_25 : decode cX11_unite 25 = .ok (.iload_n 3, 1) := by decide +kernel
theorem eX11_unite_26 : decode cX11_unite 26 = .ok (.iconst 1, 1) := by decide +kernel
theorem eX11_unite_27 : decode cX11_unite 27 = .ok (.isub, 1) := by decide +kernel
theorem eX11_unite_28 : decode cX11_unite 28 = .ok (.iaload, 1) := by decide +kernel
theorem eX11_unite_29 : decode cX11_unite 29 = .ok (.invokevirtual 438, 3) := by decide +kernel
theorem eX11_unite_32 : decode cX11_unite 32 = .ok (.istore 4, 2) := by decide +kernel
theorem eX11_unite_34 : decode cX11_unite 34 = .ok (.aload_n 0, 1) := by decide +kernel
theorem eX11_unite_35 : decode cX11_unite 35 = .ok (.aload_n 0, 1) := by decide +kernel
theorem eX11_unite_36 : decode cX11_unite 36 = .ok (.getfield 94, 3) := by decide +kernel
theorem eX11_unite_39 : decode cX11_unite 39 = .ok (.iload_n 3, 1) := by decide +kernel
theorem eX11_unite_40 : decode cX11_unite 40 = .ok (.iconst 2, 1) := by decide +kernel
theorem eX11_unite_41 : decode cX11_unite 41 = .ok (.isub, 1) := by decide +kernel
theorem eX11_unite_42 : decode cX11_unite 42 = .ok (.iaload, 1) := by decide +kernel
theorem eX11_unite_43 : decode cX11_unite 43 = .ok (.invokevirtual 438, 3) := by decide +kernel
theorem eX11_unite_46 : decode cX11_unite 46 = .ok (.istore 5, 2) := by decide +kernel
theorem eX11_unite_48 : decode cX11_unite 48 = .ok (.iinc 3 (-2), 3) := by decide +kernel
theorem eX11_unite_51 : decode cX11_unite 51 = .ok (.iload 4, 2) := by decide +kernel
theorem eX11_unite_53 : decode cX11_unite 53 = .ok (.iload 5, 2) := by decide +kernel
theorem eX11_unite_55 : decode cX11_unite 55 = .ok (.if_icmp .ne 6, 3) := by decide +kernel
theorem eX11_unite_58 : decode cX11_unite 58 = .ok (.goto (-42), 3) := by decide +kernel
theorem eX11_unite_61 : decode cX11_unite 61 = .ok (.aload_n 0, 1) := by decide +kernel
theorem eX11_unite_62 : decode cX11_unite 62 = .ok (.getfield 79, 3) := by decide +kernel
theorem eX11_unite_65 : decode cX11_unite 65 = .ok (.iload 4, 2) := by decide +kernel
theorem eX11_unite_67 : decode cX11_unite 67 = .ok (.iaload, 1) := by decide +kernel
theorem eX11_unite_68 : decode cX11_unite 68 = .ok (.iconst 2, 1) := by decide +kernel
theorem eX11_unite_69 : decode cX11_unite 69 = .ok (.if_icmp .ne 15, 3) := by decide +kernel
theorem eX11_unite_72 : decode cX11_unite 72 = .ok (.aload_n 0, 1) := by decide +kernel
theorem eX11_unite_73 : decode cX11_unite 73 = .ok (.getfield 88, 3) := by decide +kernel
theorem eX11_unite_76 : decode cX11_unite 76 = .ok (.iload 4, 2) := by decide +kernel
theorem eX11_unite_78 : decode cX11_unite 78 = .ok (.iload 5, 2) := by decide +kernel
theorem eX11_unite_80 : decode cX11_unite 80 = .ok (.iastore, 1) := by decide +kernel
theorem eX11_unite_81 : decode cX11_unite 81 = .ok (.goto 146, 3) := by decide +kernel
theorem eX11_unite_84 : decode cX11_unite 84 = .ok (.aload_n 0, 1) := by decide +kernel
theorem eX11_unite_85 : decode cX11_unite 85 = .ok (.getfield 79, 3) := by decide +kernel
theorem eX11_unite_88 : decode cX11_unite 88 = .ok (.iload 5, 2) := by decide +kernel
theorem eX11_unite_90 : decode cX11_unite 90 = .ok (.iaload, 1) := by decide +kernel
theorem eX11_unite_91 : decode cX11_unite 91 = .ok (.iconst 2, 1) := by decide +kernel
theorem eX11_unite_92 : decode cX11_unite 92 = .ok (.if_icmp .ne 15, 3) := by decide +kernel
theorem eX11_unite_95 : decode cX11_unite 95 = .ok (.aload_n 0, 1) := by decide +kernel
theorem eX11_unite_96 : decode cX11_unite 96 = .ok (.getfield 88, 3) := by decide +kernel
theorem eX11_unite_99 : decode cX11_unite 99 = .ok (.iload 5, 2) := by decide +kernel
theorem eX11_unite_101 : decode cX11_unite 101 = .ok (.iload 4, 2) := by decide +kernel
theorem eX11_unite_103 : decode cX11_unite 103 = .ok (.iastore, 1) := by decide +kernel
theorem eX11_unite_104 : decode cX11_unite 104 = .ok (.goto 123, 3) := by decide +kernel
theorem eX11_unite_107 : decode cX11_unite 107 = .ok (.aload_n 0, 1) := by decide +kernel
theorem eX11_unite_108 : decode cX11_unite 108 = .ok (.getfield 79, 3) := by decide +kernel
theorem eX11_unite_111 : decode cX11_unite 111 = .ok (.iload 4, 2) := by decide +kernel
theorem eX11_unite_113 : decode cX11_unite 113 = .ok (.iaload, 1) := by decide +kernel
theorem eX11_unite_114 : decode cX11_unite 114 = .ok (.aload_n 0, 1) := by decide +kernel
theorem eX11_unite_115 : decode cX11_unite 115 = .ok (.getfield 79, 3) := by decide +kernel
theorem eX11_unite_118 : decode cX11_unite 118 = .ok (.iload 5, 2) := by decide +kernel
theorem eX11_unite_120 : decode cX11_unite 120 = .ok (.iaload, 1) := by decide +kernel
theorem eX11_unite_121 : decode cX11_unite 121 = .ok (.if_icmp .eq 5, 3) := by decide +kernel
theorem eX11_unite_124 : decode cX11_unite 124 = .ok (.iconst 0, 1) := by decide +kernel
theorem eX11_unite_125 : decode cX11_unite 125 = .ok (.ireturn, 1) := by decide +kernel
theorem eX11_unite_126 : decode cX11_unite 126 = .ok (.aload_n 0, 1) := by decide +kernel
theorem eX11_unite_127 : decode cX11_unite 127 = .ok (.getfield 88, 3) := by decide +kernel
theorem eX11_unite_130 : decode cX11_unite 130 = .ok (.iload 4, 2) := by decide +kernel
theorem eX11_unite_132 : decode cX11_unite 132 = .ok (.iload 5, 2) := by decide +kernel
theorem eX11_unite_134 : decode cX11_unite 134 = .ok (.iastore, 1) := by decide +kernel
theorem eX11_unite_135 : decode cX11_unite 135 = .ok (.aload_n 0, 1) := by decide +kernel
theorem eX11_unite_136 : decode cX11_unite 136 = .ok (.getfield 79, 3) := by decide +kernel
theorem eX11_unite_139 : decode cX11_unite 139 = .ok (.iload 4, 2) := by decide +kernel
theorem eX11_unite_141 : decode cX11_unite 141 = .ok (.iaload, 1) := by decide +kernel
theorem eX11_unite_142 : decode cX11_unite 142 = .ok (.invokestatic 441, 3) := by decide +kernel
theorem eX11_unite_145 : decode cX11_unite 145 = .ok (.ifCond .ne 6, 3) := by decide +kernel
theorem eX11_unite_148 : decode cX11_unite 148 = .ok (.goto (-132), 3) := by decide +kernel
theorem eX11_unite_151 : decode cX11_unite 151 = .ok (.aload_n 0, 1) := by decide +kernel
theorem eX11_unite_152 : decode cX11_unite 152 = .ok (.getfield 94, 3) := by decide +kernel
theorem eX11_unite_155 : decode cX11_unite 155 = .ok (.iload_n 3, 1) := by decide +kernel
theorem eX11_unite_156 : decode cX11_unite 156 = .ok (.aload_n 0, 1) := by decide +kernel
theorem eX11_unite_157 : decode cX11_unite 157 = .ok (.getfield 82, 3) := by decide +kernel
theorem eX11_unite_160 : decode cX11_unite 160 = .ok (.iload 4, 2) := by decide +kernel
theorem eX11_unite_162 : decode cX11_unite 162 = .ok (.iaload, 1) := by decide +kernel
theorem eX11_unite_163 : decode cX11_unite 163 = .ok (.iastore, 1) := by decide +kernel
theorem eX11_unite_164 : decode cX11_unite 164 = .ok (.aload_n 0, 1) := by decide +kernel
theorem eX11_unite_165 : decode cX11_unite 165 = .ok (.getfield 94, 3) := by decide +kernel
theorem eX11_unite_168 : decode cX11_unite 168 = .ok (.iload_n 3, 1) := by decide +kernel
theorem eX11_unite_169 : decode cX11_unite 169 = .ok (.iconst 1, 1) := by decide +kernel
theorem eX11_unite_170 : decode cX11_unite 170 = .ok (.iadd, 1) := by decide +kernel
theorem eX11_unite_171 : decode cX11_unite 171 = .ok (.aload_n 0, 1) := by decide +kernel
theorem eX11_unite_172 : decode cX11_unite 172 = .ok (.getfield 82, 3) := by decide +kernel
theorem eX11_unite_175 : decode cX11_unite 175 = .ok (.iload 5, 2) := by decide +kernel
theorem eX11_unite_177 : decode cX11_unite 177 = .ok (.iaload, 1) := by decide +kernel
theorem eX11_unite_178 : decode cX11_unite 178 = .ok (.iastore, 1) := by decide +kernel
theorem eX11_unite_179 : decode cX11_unite 179 = .ok (.iinc 3 2, 3) := by decide +kernel
theorem eX11_unite_182 : decode cX11_unite 182 = .ok (.aload_n 0, 1) := by decide +kernel
theorem eX11_unite_183 : decode cX11_unite 183 = .ok (.getfield 79, 3) := by decide +kernel
theorem eX11_unite_186 : decode cX11_unite 186 = .ok (.iload 4, 2) := by decide +kernel
theorem eX11_unite_188 : decode cX11_unite 188 = .ok (.iaload, 1) := by decide +kernel
theorem eX11_unite_189 : decode cX11_unite 189 = .ok (.iconst 3, 1) := by decide +kernel
theorem eX11_unite_190 : decode cX11_unite 190 = .ok (.if_icmp .ne 6, 3) := by decide +kernel
theorem eX11_unite_193 : decode cX11_unite 193 = .ok (.goto (-177), 3) := by decide +kernel
theorem eX11_unite_196 : decode cX11_unite 196 = .ok (.aload_n 0, 1) := by decide +kernel
theorem eX11_unite_197 : decode cX11_unite 197 = .ok (.getfield 94, 3) := by decide +kernel
theorem eX11_unite_200 : decode cX11_unite 200 = .ok (.iload_n 3, 1) := by decide +kernel
theorem eX11_unite_201 : decode cX11_unite 201 = .ok (.aload_n 0, 1) := by decide +kernel
theorem eX11_unite_202 : decode cX11_unite 202 = .ok (.getfield 85, 3) := by decide +kernel
theorem eX11_unite_205 : decode cX11_unite 205 = .ok (.iload 4, 2) := by decide +kernel
theorem eX11_unite_207 : decode cX11_unite 207 = .ok (.iaload, 1) := by decide +kernel
theorem eX11_unite_208 : decode cX11_unite 208 = .ok (.iastore, 1) := by decide +kernel
theorem eX11_unite_209 : decode cX11_unite 209 = .ok (.aload_n 0, 1) := by decide +kernel
theorem eX11_unite_210 : decode cX11_unite 210 = .ok (.getfield 94, 3) := by decide +kernel
theorem eX11_unite_213 : decode cX11_unite 213 = .ok (.iload_n 3, 1) := by decide +kernel
theorem eX11_unite_214 : decode cX11_unite 214 = .ok (.iconst 1, 1) := by decide +kernel
theorem eX11_unite_215 : decode cX11_unite 215 = .ok (.iadd, 1) := by decide +kernel
theorem eX11_unite_216 : decode cX11_unite 216 = .ok (.aload_n 0, 1) := by decide +kernel
theorem eX11_unite_217 : decode cX11_unite 217 = .ok (.getfield 85, 3) := by decide +kernel
theorem eX11_unite_220 : decode cX11_unite 220 = .ok (.iload 5, 2) := by decide +kernel
theorem eX11_unite_222 : decode cX11_unite 222 = .ok (.iaload, 1) := by decide +kernel
theorem eX11_unite_223 : decode cX11_unite 223 = .ok (.iastore, 1) := by decide +kernel
theorem eX11_unite_224 : decode cX11_unite 224 = .ok (.iinc 3 2, 3) := by decide +kernel
theorem eX11_unite_227 : decode cX11_unite 227 = .ok (.goto (-211), 3) := by decide +kernel
theorem eX11_unite_230 : decode cX11_unite 230 = .ok (.iconst 1, 1) := by decide +kernel
theorem eX11_unite_231 : decode cX11_unite 231 = .ok (.ireturn, 1) := by decide +kernel
def C_X11_unite (s : ST) (p : Int) (q : Int) (Q : ST → Int → Prop) : Prop := bx <| RA s → R32 p → R32 q → q_met mX11_unite (qs layM s) [.ref 139, .int (Int32.ofInt p), .int (Int32.ofInt q)] (PB layM Q)
theorem C_X11_unite.mono {s : ST} {p : Int} {q : Int} {Q Q' : ST → Int → Prop} (h : C_X11_unite s p q Q) (hq : ∀ s v, Q s v → Q' s v) : C_X11_unite s p q Q' := ⟨fun hA hrp hrq => q_met.mono (h.1 hA hrp hrq) (fun _ _ => PB.mono hq), trivial⟩
def K_X11_unite_16 (s : ST) (a3 : Int) (Q : ST → Int → Prop) : Prop := bx <| RA s → R32 a3 → q_K mX11_unite (qs layM s) 0 0 16 [(0, .ref 139), (3, .int (Int32.ofInt a3))] [] (q_fin mX11_unite (PB layM Q))
set_option maxRecDepth 20000 in
theorem s_X11_unite_16 {s : ST} {a3 : Int} {Q : ST → Int → Prop} (h : RA s → R32 a3 → ((a3 ≤ 0 → Q s 1) ∧ (¬ a3 ≤ 0 → (R32 (a3 - 1) ∧ (((0 : Int) ≤ (a3 - 1) ∧ (a3 - 1) < 12000) ∧ (C_X11_find s (s.1 166 (a3 - 1)) (fun s3 v3 => (R32 (a3 - 2) ∧ (((0 : Int) ≤ (a3 - 2) ∧ (a3 - 2) < 12000) ∧ (C_X11_find s3 (s3.1 166 (a3 - 2)) (fun s6 v6 => ((¬ v3 = v6 → (((0 : Int) ≤ v3 ∧ v3 < 12000) ∧ ((¬ s6.1 161 v3 = 2 → (((0 : Int) ≤ v6 ∧ v6 < 12000) ∧ ((¬ s6.1 161 v6 = 2 → ((s6.1 161 v3 = s6.1 161 v6 → (((¬ (s6.1 161 v3) ≤ 2) → (R32 ((a3 - 2) + 1) ∧ (((0 : Int) ≤ ((a3 - 2) + 1) ∧ ((a3 - 2) + 1) < 12000) ∧ (R32 ((a3 - 2) + 2) ∧ ((¬ s6.1 161 v3 = 3 → (((0 : Int) ≤ ((a3 - 2) + 2) ∧ ((a3 - 2) + 2) < 12000) ∧ (R32 (((a3 - 2) + 2) + 1) ∧ (((0 : Int) ≤ (((a3 - 2) + 2) + 1) ∧ (((a3 - 2) + 2) + 1) < 12000) ∧ (R32 (((a3 - 2) + 2) + 2) ∧ K_X11_unite_16 (ui (ui (ui (ui (ui s6 164 v3 v6) 166 (a3 - 2) (s6.1 162 v3)) 166 ((a3 - 2) + 1) (s6.1 162 v6)) 166 ((a3 - 2) + 2) (s6.1 163 v3)) 166 (((a3 - 2) + 2) + 1) (s6.1 163 v6)) (((a3 - 2) + 2) + 2) Q))))) ∧ (s6.1 161 v3 = 3 → K_X11_unite_16 (ui (ui (ui s6 164 v3 v6) 166 (a3 - 2) (s6.1 162 v3)) 166 ((a3 - 2) + 1) (s6.1 162 v6)) ((a3 - 2) + 2) Q)))))) ∧ (¬ (¬ (s6.1 161 v3) ≤ 2) → K_X11_unite_16 (ui s6 164 v3 v6) (a3 - 2) Q))) ∧ (¬ s6.1 161 v3 = s6.1 161 v6 → Q s6 0))) ∧ (s6.1 161 v6 = 2 → K_X11_unite_16 (ui s6 164 v6 v3) (a3 - 2) Q)))) ∧ (s6.1 161 v3 = 2 → K_X11_unite_16 (ui s6 164 v3 v6) (a3 - 2) Q)))) ∧ (v3 = v6 → K_X11_unite_16 s6 (a3 - 2) Q))))))))))))) : K_X11_unite_16 s a3 Q := by
  refine ⟨?_, trivial⟩
  intro hA hra3
  have h := h hA hra3
  refine q_iload_n eX11_unite_16 rfl ?_
  refine q_iz_le (tgt := 230) (a := a3) eX11_unite_17 (by decide) (ofz hra3) (fun c17 => ?_) (fun c17 => ?_)
  · have h := h.1 c17
    refine q_ic (v := Int32.ofInt 1) eX11_unite_230 rfl ?_
    exact q_zret eX11_unite_231 rfl (z01 (Or.inr rfl)) ⟨_, _, rfl, hA, (Or.inr rfl), rfl, h⟩
  · have h := h.2 c17
    refine q_aload_n eX11_unite_20 rfl ?_
    refine q_aload_n eX11_unite_21 rfl ?_
    refine q_getR (c := 11) (n := 0) (k := 38) (a := 166) eX11_unite_22 rfl (by decide) (by decide) fX11_94 rfl rfl ?_
    refine q_iload_n eX11_unite_25 rfl ?_
    refine q_ic (v := Int32.ofInt 1) eX11_unite_26 rfl ?_
    refine z_isub eX11_unite_27 ?_
    have r1 := h.1
    have h := h.2
    have f2 := h.1
    have h := h.2
    refine z_iald (n := 12000) eX11_unite_28 rfl (ofz r1) f2 ?_
    refine q_topI (v := Int32.ofInt (s.1 166 (a3 - 1))) rfl ?_
    refine q_V1 (ci := 11) (n := 0) eX11_unite_29 DX11_find lX11_438 rfl (by decide) rfl rfl rfl rfl (h.1 hA (hA _ _)) ?_
    rintro _ _ ⟨s3, v3, rfl, hA3, r3, rfl, h⟩
    refine q_istore eX11_unite_32 (Nat.le_of_ble_eq_true rfl) ?_
    refine q_aload_n eX11_unite_34 rfl ?_
    refine q_aload_n eX11_unite_35 rfl ?_
    refine q_getR (c := 11) (n := 0) (k := 38) (a := 166) eX11_unite_36 rfl (by decide) (by decide) fX11_94 rfl rfl ?_
    refine q_iload_n eX11_unite_39 rfl ?_
    refine q_ic (v := Int32.ofInt 2) eX11_unite_40 rfl ?_
    refine z_isub eX11_unite_41 ?_
    have r4 := h.1
    have h := h.2
    have f5 := h.1
    have h := h.2
    refine z_iald (n := 12000) eX11_unite_42 rfl (ofz r4) f5 ?_
    refine q_topI (v := Int32.ofInt (s3.1 166 (a3 - 2))) rfl ?_
    refine q_V1 (ci := 11) (n := 0) eX11_unite_43 DX11_find lX11_438 rfl (by decide) rfl rfl rfl rfl (h.1 hA3 (hA3 _ _)) ?_
    rintro _ _ ⟨s6, v6, rfl, hA6, r6, rfl, h⟩
    refine q_istore eX11_unite_46 (Nat.le_of_ble_eq_true rfl) ?_
    refine z_incN (m := 2) eX11_unite_48 rfl (Nat.le_of_ble_eq_true rfl) rfl ?_
    refine q_iload eX11_unite_51 rfl ?_
    refine q_iload eX11_unite_53 rfl ?_
    refine q_cz_ne (tgt := 61) (a := v3) (b := v6) eX11_unite_55 (by decide) (ofz r3) (ofz r6) (fun c55 => ?_) (fun c55 => ?_)
    · have h := h.1 c55
      refine q_aload_n eX11_unite_61 rfl ?_
      refine q_getR (c := 11) (n := 0) (k := 33) (a := 161) eX11_unite_62 rfl (by decide) (by decide) fX11_79 rfl rfl ?_
      refine q_iload eX11_unite_65 rfl ?_
      have f7 := h.1
      have h := h.2
      refine z_iald (n := 12000) eX11_unite_67 rfl (ofz r3) f7 ?_
      refine q_topI (v := Int32.ofInt (s6.1 161 v3)) rfl ?_
      refine q_ic (v := Int32.ofInt 2) eX11_unite_68 rfl ?_
      refine q_cz_ne (tgt := 84) (a := s6.1 161 v3) (b := 2) eX11_unite_69 (by decide) (ofz (hA6 _ _)) (ofz (r32l rfl)) (fun c69 => ?_) (fun c69 => ?_)
      · have h := h.1 c69
        refine q_aload_n eX11_unite_84 rfl ?_
        refine q_getR (c := 11) (n := 0) (k := 33) (a := 161) eX11_unite_85 rfl (by decide) (by decide) fX11_79 rfl rfl ?_
        refine q_iload eX11_unite_88 rfl ?_
        have f8 := h.1
        have h := h.2
        refine z_iald (n := 12000) eX11_unite_90 rfl (ofz r6) f8 ?_
        refine q_topI (v := Int32.ofInt (s6.1 161 v6)) rfl ?_
        refine q_ic (v := Int32.ofInt 2) eX11_unite_91 rfl ?_
        refine q_cz_ne (tgt := 107) (a := s6.1 161 v6) (b := 2) eX11_unite_92 (by decide) (ofz (hA6 _ _)) (ofz (r32l rfl)) (fun c92 => ?_) (fun c92 => ?_)
        · have h := h.1 c92
          refine q_aload_n eX11_unite_107 rfl ?_
          refine q_getR (c := 11) (n := 0) (k := 33) (a := 161) eX11_unite_108 rfl (by decide) (by decide) fX11_79 rfl rfl ?_
          refine q_iload eX11_unite_111 rfl ?_
          refine z_iald (n := 12000) eX11_unite_113 rfl (ofz r3) f7 ?_
          refine q_topI (v := Int32.ofInt (s6.1 161 v3)) rfl ?_
          refine q_aload_n eX11_unite_114 rfl ?_
          refine q_getR (c := 11) (n := 0) (k := 33) (a := 161) eX11_unite_115 rfl (by decide) (by decide) fX11_79 rfl rfl ?_
          refine q_iload eX11_unite_118 rfl ?_
          refine z_iald (n := 12000) eX11_unite_120 rfl (ofz r6) f8 ?_
          refine q_topI (v := Int32.ofInt (s6.1 161 v6)) rfl ?_
          refine q_cz_eq (tgt := 126) (a := s6.1 161 v3) (b := s6.1 161 v6) eX11_unite_121 (by decide) (ofz (hA6 _ _)) (ofz (hA6 _ _)) (fun c121 => ?_) (fun c121 => ?_)
          · have h := h.1 c121
            refine q_aload_n eX11_unite_126 rfl ?_
            refine q_getR (c := 11) (n := 0) (k := 36) (a := 164) eX11_unite_127 rfl (by decide) (by decide) fX11_88 rfl rfl ?_
            refine q_iload eX11_unite_130 rfl ?_
            refine q_iload eX11_unite_132 rfl ?_
            refine z_iast (n := 12000) eX11_unite_134 rfl (ofz r3) f7  ?_
            refine q_aload_n eX11_unite_135 rfl ?_
            refine q_getR (c := 11) (n := 0) (k := 33) (a := 161) eX11_unite_136 rfl (by decide) (by decide) fX11_79 rfl rfl ?_
            refine q_iload eX11_unite_139 rfl ?_
            refine z_iald (n := 12000) eX11_unite_141 rfl (ofz r3) f7 ?_
            refine q_topI (v := Int32.ofInt (s6.1 161 v3)) rfl ?_
            refine q_S1 eX11_unite_142 DX11_isMade lX11_441 rfl rfl rfl (p_X11_isMade (ra_ui hA6 r6) (hA6 _ _)) ?_
            rintro _ _ ⟨b9, rfl, rfl⟩
            refine q_iz_ne (tgt := 151) (a := (F_X11_isMade (ui s6 164 v3 v6) (s6.1 161 v3))) eX11_unite_145 (by decide) (ofz (r01 b9)) (fun c145 => ?_) (fun c145 => ?_)
            · have h := h.1 (n_X11_isMade.mp c145)
              refine q_aload_n eX11_unite_151 rfl ?_
              refine q_getR (c := 11) (n := 0) (k := 38) (a := 166) eX11_unite_152 rfl (by decide) (by decide) fX11_94 rfl rfl ?_
              refine q_iload_n eX11_unite_155 rfl ?_
              refine q_aload_n eX11_unite_156 rfl ?_
              refine q_getR (c := 11) (n := 0) (k := 34) (a := 162) eX11_unite_157 rfl (by decide) (by decide) fX11_82 rfl rfl ?_
              refine q_iload eX11_unite_160 rfl ?_
              refine z_iald (n := 12000) eX11_unite_162 rfl (ofz r3) f7 ?_
              refine q_topI (v := Int32.ofInt (s6.1 162 v3)) rfl ?_
              refine z_iast (n := 12000) eX11_unite_163 rfl (ofz r4) f5  ?_
              refine q_aload_n eX11_unite_164 rfl ?_
              refine q_getR (c := 11) (n := 0) (k := 38) (a := 166) eX11_unite_165 rfl (by decide) (by decide) fX11_94 rfl rfl ?_
              refine q_iload_n eX11_unite_168 rfl ?_
              refine q_ic (v := Int32.ofInt 1) eX11_unite_169 rfl ?_
              refine z_iadd eX11_unite_170 ?_
              have r10 := h.1
              have h := h.2
              refine q_aload_n eX11_unite_171 rfl ?_
              refine q_getR (c := 11) (n := 0) (k := 34) (a := 162) eX11_unite_172 rfl (by decide) (by decide) fX11_82 rfl rfl ?_
              refine q_iload eX11_unite_175 rfl ?_
              refine z_iald (n := 12000) eX11_unite_177 rfl (ofz r6) f8 ?_
              refine q_topI (v := Int32.ofInt (s6.1 162 v6)) rfl ?_
              have f11 := h.1
              have h := h.2
              refine z_iast (n := 12000) eX11_unite_178 rfl (ofz r10) f11  ?_
              have r12 := h.1
              have h := h.2
              refine z_inc (m := 2) eX11_unite_179 rfl (Nat.le_of_ble_eq_true rfl) rfl ?_
              refine q_aload_n eX11_unite_182 rfl ?_
              refine q_getR (c := 11) (n := 0) (k := 33) (a := 161) eX11_unite_183 rfl (by decide) (by decide) fX11_79 rfl rfl ?_
              refine q_iload eX11_unite_186 rfl ?_
              refine z_iald (n := 12000) eX11_unite_188 rfl (ofz r3) f7 ?_
              refine q_topI (v := Int32.ofInt (s6.1 161 v3)) rfl ?_
              refine q_ic (v := Int32.ofInt 3) eX11_unite_189 rfl ?_
              refine q_cz_ne (tgt := 196) (a := s6.1 161 v3) (b := 3) eX11_unite_190 (by decide) (ofz (hA6 _ _)) (ofz (r32l rfl)) (fun c190 => ?_) (fun c190 => ?_)
              · have h := h.1 c190
                refine q_aload_n eX11_unite_196 rfl ?_
                refine q_getR (c := 11) (n := 0) (k := 38) (a := 166) eX11_unite_197 rfl (by decide) (by decide) fX11_94 rfl rfl ?_
                refine q_iload_n eX11_unite_200 rfl ?_
                refine q_aload_n eX11_unite_201 rfl ?_
                refine q_getR (c := 11) (n := 0) (k := 35) (a := 163) eX11_unite_202 rfl (by decide) (by decide) fX11_85 rfl rfl ?_
                refine q_iload eX11_unite_205 rfl ?_
                refine z_iald (n := 12000) eX11_unite_207 rfl (ofz r3) f7 ?_
                refine q_topI (v := Int32.ofInt (s6.1 163 v3)) rfl ?_
                have f13 := h.1
                have h := h.2
                refine z_iast (n := 12000) eX11_unite_208 rfl (ofz r12) f13  ?_
                refine q_aload_n eX11_unite_209 rfl ?_
                refine q_getR (c := 11) (n := 0) (k := 38) (a := 166) eX11_unite_210 rfl (by decide) (by decide) fX11_94 rfl rfl ?_
                refine q_iload_n eX11_unite_213 rfl ?_
                refine q_ic (v := Int32.ofInt 1) eX11_unite_214 rfl ?_
                refine z_iadd eX11_unite_215 ?_
                have r14 := h.1
                have h := h.2
                refine q_aload_n eX11_unite_216 rfl ?_
                refine q_getR (c := 11) (n := 0) (k := 35) (a := 163) eX11_unite_217 rfl (by decide) (by decide) fX11_85 rfl rfl ?_
                refine q_iload eX11_unite_220 rfl ?_
                refine z_iald (n := 12000) eX11_unite_222 rfl (ofz r6) f8 ?_
                refine q_topI (v := Int32.ofInt (s6.1 163 v6)) rfl ?_
                have f15 := h.1
                have h := h.2
                refine z_iast (n := 12000) eX11_unite_223 rfl (ofz r14) f15  ?_
                have r16 := h.1
                have h := h.2
                refine z_inc (m := 2) eX11_unite_224 rfl (Nat.le_of_ble_eq_true rfl) rfl ?_
                refine q_goto (tgt := 16) eX11_unite_227 (by decide) ?_
                exact q_subL rfl (h.1 (ra_ui (ra_ui (ra_ui (ra_ui (ra_ui hA6 r6) (hA6 _ _)) (hA6 _ _)) (hA6 _ _)) (hA6 _ _)) r16)
              · have h := h.2 c190
                refine q_goto (tgt := 16) eX11_unite_193 (by decide) ?_
                exact q_subL rfl (h.1 (ra_ui (ra_ui (ra_ui hA6 r6) (hA6 _ _)) (hA6 _ _)) r12)
            · have h := h.2 (fun q => n_X11_isMade.mpr q c145)
              refine q_goto (tgt := 16) eX11_unite_148 (by decide) ?_
              exact q_subL rfl (h.1 (ra_ui hA6 r6) r4)
          · have h := h.2 c121
            refine q_ic (v := Int32.ofInt 0) eX11_unite_124 rfl ?_
            exact q_zret eX11_unite_125 rfl (z01 (Or.inl rfl)) ⟨_, _, rfl, hA6, (Or.inl rfl), rfl, h⟩
        · have h := h.2 c92
          refine q_aload_n eX11_unite_95 rfl ?_
          refine q_getR (c := 11) (n := 0) (k := 36) (a := 164) eX11_unite_96 rfl (by decide) (by decide) fX11_88 rfl rfl ?_
          refine q_iload eX11_unite_99 rfl ?_
          refine q_iload eX11_unite_101 rfl ?_
          refine z_iast (n := 12000) eX11_unite_103 rfl (ofz r6) f8  ?_
          refine q_goto (tgt := 227) eX11_unite_104 (by decide) ?_
          refine q_goto (tgt := 16) eX11_unite_227 (by decide) ?_
          exact q_subL rfl (h.1 (ra_ui hA6 r3) r4)
      · have h := h.2 c69
        refine q_aload_n eX11_unite_72 rfl ?_
        refine q_getR (c := 11) (n := 0) (k := 36) (a := 164) eX11_unite_73 rfl (by decide) (by decide) fX11_88 rfl rfl ?_
        refine q_iload eX11_unite_76 rfl ?_
        refine q_iload eX11_unite_78 rfl ?_
        refine z_iast (n := 12000) eX11_unite_80 rfl (ofz r3) f7  ?_
        refine q_goto (tgt := 227) eX11_unite_81 (by decide) ?_
        refine q_goto (tgt := 16) eX11_unite_227 (by decide) ?_
        exact q_subL rfl (h.1 (ra_ui hA6 r6) r4)
    · have h := h.2 c55
      refine q_goto (tgt := 16) eX11_unite_58 (by decide) ?_
      exact q_subL rfl (h.1 hA6 r4)
set_option maxRecDepth 20000 in
theorem s_X11_unite {s : ST} {p : Int} {q : Int} {Q : ST → Int → Prop} (h : RA s → R32 p → R32 q → (((0 : Int) ≤ (0 : Int) ∧ (0 : Int) < 12000) ∧ (((0 : Int) ≤ (1 : Int) ∧ (1 : Int) < 12000) ∧ K_X11_unite_16 (ui (ui s 166 0 p) 166 1 q) 2 Q))) : C_X11_unite s p q Q := by
  refine ⟨?_, trivial⟩
  intro hA hrp hrq
  have h := h hA hrp hrq
  refine q_enter (by decide) (Nat.le_of_ble_eq_true rfl) ?_
  refine q_ic (v := Int32.ofInt 2) eX11_unite_0 rfl ?_
  refine q_istore_n eX11_unite_1 (Nat.le_of_ble_eq_true rfl) ?_
  refine q_aload_n eX11_unite_2 rfl ?_
  refine q_getR (c := 11) (n := 0) (k := 38) (a := 166) eX11_unite_3 rfl (by decide) (by decide) fX11_94 rfl rfl ?_
  refine q_ic (v := Int32.ofInt 0) eX11_unite_6 rfl ?_
  refine q_iload_n eX11_unite_7 rfl ?_
  have f1 := h.1
  have h := h.2
  refine z_iast (n := 12000) eX11_unite_8 rfl (ofz (r32l rfl)) f1  ?_
  refine q_aload_n eX11_unite_9 rfl ?_
  refine q_getR (c := 11) (n := 0) (k := 38) (a := 166) eX11_unite_10 rfl (by decide) (by decide) fX11_94 rfl rfl ?_
  refine q_ic (v := Int32.ofInt 1) eX11_unite_13 rfl ?_
  refine q_iload_n eX11_unite_14 rfl ?_
  have f2 := h.1
  have h := h.2
  refine z_iast (n := 12000) eX11_unite_15 rfl (ofz (r32l rfl)) f2  ?_
  exact q_subL rfl (h.1 (ra_ui (ra_ui hA hrp) hrq) (r32l rfl))
theorem eX11_takesOff_0 : decode cX11_takesOff 0 = .ok (.aload_n 0, 1) := by decide +kernel
theorem eX11_takesOff_1 : decode cX11_takesOff 1 = .ok (.getfield 91, 3) := by decide +kernel
theorem eX11_takesOff_4 : decode cX11_takesOff 4 = .ok (.iload_n 1, 1) := by decide +kernel
theorem eX11_takesOff_5 : decode cX11_takesOff 5 = .ok (.dup2, 1) := by decide +kernel
theorem eX11_takesOff_6 : decode cX11_takesOff 6 = .ok (.iaload, 1) := by decide +kernel
theorem eX11_takesOff_7 : decode cX11_takesOff 7 = .ok (.iconst 1, 1) := by decide +kernel
theorem eX11_takesOff_8 : decode cX11_takesOff 8 = .ok (.isub, 1) := by decide +kernel
theorem eX11_takesOff_9 : decode cX11_takesOff 9 = .ok (.iastore, 1) := by decide +kernel
theorem eX11_takesOff_10 : decode cX11_takesOff 10 = .ok (.aload_n 0, 1) := by decide +kernel
theorem eX11_takesOff_11 : decode cX11_takesOff 11 = .ok (.getfield 91, 3) := by decide +kernel
theorem eX11_takesOff_14 : decode cX11_takesOff 14 = .ok (.iload_n 1, 1) := by decide +kernel
theorem eX11_takesOff_15 : decode cX11_takesOff 15 = .ok (.iaload, 1) := by decide +kernel
theorem eX11_takesOff_16 : decode cX11_takesOff 16 = .ok (.ifCond .gt 15, 3) := by decide +kernel
theorem eX11_takesOff_19 : decode cX11_takesOff 19 = .ok (.aload_n 0, 1) := by decide +kernel
theorem eX11_takesOff_20 : decode cX11_takesOff 20 = .ok (.getfield 79, 3) := by decide +kernel
theorem eX11_takesOff_23 : decode cX11_takesOff 23 = .ok (.iload_n 1, 1) := by decide +kernel
theorem eX11_takesOff_24 : decode cX11_takesOff 24 = .ok (.iaload, 1) := by decide +kernel
theorem eX11_takesOff_25 : decode cX11_takesOff 25 = .ok (.invokestatic 441, 3) := by decide +kernel
theorem eX11_takesOff_28 : decode cX11_takesOff 28 = .ok (.ifCond .ne 5, 3) := by decide +kernel
theorem eX11_takesOff_31 : decode cX11_takesOff 31 = .ok (.iload_n 2, 1) := by decide +kernel
theorem eX11_takesOff_32 : decode cX11_takesOff 32 = .ok (.ireturn, 1) := by decide +kernel
theorem eX11_takesOff_33 : decode cX11_takesOff 33 = .ok (.aload_n 0, 1) := by decide +kernel
theorem eX11_takesOff_34 : decode cX11_takesOff 34 = .ok (.getfield 94, 3) := by decide +kernel
theorem eX11_takesOff_37 : decode cX11_takesOff 37 = .ok (.iload_n 2, 1) := by decide +kernel
theorem eX11_takesOff_38 : decode cX11_takesOff 38 = .ok (.iload_n 1, 1) := by decide +kernel
theorem eX11_takesOff_39 : decode cX11_takesOff 39 = .ok (.iastore, 1) := by decide +kernel
theorem eX11_takesOff_40 : decode cX11_takesOff 40 = .ok (.iload_n 2, 1) := by decide +kernel
theorem eX11_takesOff_41 : decode cX11_takesOff 41 = .ok (.iconst 1, 1) := by decide +kernel
theorem eX11_takesOff_42 : decode cX11_takesOff 42 = .ok (.iadd, 1) := by decide +kernel
theorem eX11_takesOff_43 : decode cX11_takesOff 43 = .ok (.ireturn, 1) := by decide +kernel
def C_X11_takesOff (s : ST) (p : Int) (q : Int) (Q : ST → Int → Prop) : Prop := bx <| RA s → R32 p → R32 q → q_met mX11_takesOff (qs layM s) [.ref 139, .int (Int32.ofInt p), .int (Int32.ofInt q)] (PI layM Q)
theorem C_X11_takesOff.mono {s : ST} {p : Int} {q : Int} {Q Q' : ST → Int → Prop} (h : C_X11_takesOff s p q Q) (hq : ∀ s v, Q s v → Q' s v) : C_X11_takesOff s p q Q' := ⟨fun hA hrp hrq => q_met.mono (h.1 hA hrp hrq) (fun _ _ => PI.mono hq), trivial⟩
set_option maxRecDepth 20000 in
theorem s_X11_takesOff {s : ST} {p : Int} {q : Int} {Q : ST → Int → Prop} (h : RA s → R32 p → R32 q → (((0 : Int) ≤ p ∧ p < 12000) ∧ (R32 (s.1 165 p - 1) ∧ ((0 < (ui s 165 p (s.1 165 p - 1)).1 165 p → Q (ui s 165 p (s.1 165 p - 1)) q) ∧ (¬ 0 < (ui s 165 p (s.1 165 p - 1)).1 165 p → (((¬ (s.1 161 p) ≤ 2) → (((0 : Int) ≤ q ∧ q < 12000) ∧ (R32 (q + 1) ∧ Q (ui (ui s 165 p (s.1 165 p - 1)) 166 q p) (q + 1)))) ∧ (¬ (¬ (s.1 161 p) ≤ 2) → Q (ui s 165 p (s.1 165 p - 1)) q))))))) : C_X11_takesOff s p q Q := by
  refine ⟨?_, trivial⟩
  intro hA hrp hrq
  have h := h hA hrp hrq
  refine q_enter (by decide) (Nat.le_of_ble_eq_true rfl) ?_
  refine q_aload_n eX11_takesOff_0 rfl ?_
  refine q_getR (c := 11) (n := 0) (k := 37) (a := 165) eX11_takesOff_1 rfl (by decide) (by decide) fX11_91 rfl rfl ?_
  refine q_iload_n eX11_takesOff_4 rfl ?_
  refine q_dup2 eX11_takesOff_5 rfl rfl ?_
  have f1 := h.1
  have h := h.2
  refine z_iald (n := 12000) eX11_takesOff_6 rfl (ofz hrp) f1 ?_
  refine q_topI (v := Int32.ofInt (s.1 165 p)) rfl ?_
  refine q_ic (v := Int32.ofInt 1) eX11_takesOff_7 rfl ?_
  refine z_isub eX11_takesOff_8 ?_
  have r2 := h.1
  have h := h.2
  refine z_iast (n := 12000) eX11_takesOff_9 rfl (ofz hrp) f1  ?_
  refine q_aload_n eX11_takesOff_10 rfl ?_
  refine q_getR (c := 11) (n := 0) (k := 37) (a := 165) eX11_takesOff_11 rfl (by decide) (by decide) fX11_91 rfl rfl ?_
  refine q_iload_n eX11_takesOff_14 rfl ?_
  refine z_iald (n := 12000) eX11_takesOff_15 rfl (ofz hrp) f1 ?_
  refine q_topI (v := Int32.ofInt ((ui s 165 p (s.1 165 p - 1)).1 165 p)) rfl ?_
  refine q_iz_gt (tgt := 31) (a := (ui s 165 p (s.1 165 p - 1)).1 165 p) eX11_takesOff_16 (by decide) (ofz ((ra_ui hA r2) _ _)) (fun c16 => ?_) (fun c16 => ?_)
  · have h := h.1 c16
    refine q_iload_n eX11_takesOff_31 rfl ?_
    exact q_iret eX11_takesOff_32 rfl ⟨_, _, rfl, (ra_ui hA r2), hrq, rfl, h⟩
  · have h := h.2 c16
    refine q_aload_n eX11_takesOff_19 rfl ?_
    refine q_getR (c := 11) (n := 0) (k := 33) (a := 161) eX11_takesOff_20 rfl (by decide) (by decide) fX11_79 rfl rfl ?_
    refine q_iload_n eX11_takesOff_23 rfl ?_
    refine z_iald (n := 12000) eX11_takesOff_24 rfl (ofz hrp) f1 ?_
    refine q_topI (v := Int32.ofInt (s.1 161 p)) rfl ?_
    refine q_S1 eX11_takesOff_25 DX11_isMade lX11_441 rfl rfl rfl (p_X11_isMade (ra_ui hA r2) (hA _ _)) ?_
    rintro _ _ ⟨b3, rfl, rfl⟩
    refine q_iz_ne (tgt := 33) (a := (F_X11_isMade (ui s 165 p (s.1 165 p - 1)) (s.1 161 p))) eX11_takesOff_28 (by decide) (ofz (r01 b3)) (fun c28 => ?_) (fun c28 => ?_)
    · have h := h.1 (n_X11_isMade.mp c28)
      refine q_aload_n eX11_takesOff_33 rfl ?_
      refine q_getR (c := 11) (n := 0) (k := 38) (a := 166) eX11_takesOff_34 rfl (by decide) (by decide) fX11_94 rfl rfl ?_
      refine q_iload_n eX11_takesOff_37 rfl ?_
      refine q_iload_n eX11_takesOff_38 rfl ?_
      have f4 := h.1
      have h := h.2
      refine z_iast (n := 12000) eX11_takesOff_39 rfl (ofz hrq) f4  ?_
      refine q_iload_n eX11_takesOff_40 rfl ?_
      refine q_ic (v := Int32.ofInt 1) eX11_takesOff_41 rfl ?_
      refine z_iadd eX11_takesOff_42 ?_
      have r5 := h.1
      have h := h.2
      exact q_iret eX11_takesOff_43 rfl ⟨_, _, rfl, (ra_ui (ra_ui hA r2) hrp), r5, rfl, h⟩
    · have h := h.2 (fun q => n_X11_isMade.mpr q c28)
      refine q_iload_n eX11_takesOff_31 rfl ?_
      exact q_iret eX11_takesOff_32 rfl ⟨_, _, rfl, (ra_ui hA r2), hrq, rfl, h⟩
theorem eX11_isSound_0 : decode cX11_isSound 0 = .ok (.iconst 0, 1) := by decide +kernel
theorem eX11_isSound_1 : decode cX11_isSound 1 = .ok (.istore_n 1, 1) := by decide +kernel
theorem eX11_isSound_2 : decode cX11_isSound 2 = .ok (.iconst 0, 1) := by decide +kernel
theorem eX11_isSound_3 : decode cX11_isSound 3 = .ok (.istore_n 2, 1) := by decide +kernel
theorem eX11_isSound_4 : decode cX11_isSound 4 = .ok (.iload_n 2, 1) := by decide +kernel
theorem eX11_isSound_5 : decode cX11_isSound 5 = .ok (.aload_n 0, 1) := by decide +kernel
theorem eX11_isSound_6 : decode cX11_isSound 6 = .ok (.getfield 386, 3) := by decide +kernel
theorem eX11_isSound_9 : decode cX11_isSound 9 = .ok (.if_icmp .ge 16, 3) := by decide +kernel
theorem eX11_isSound_12 : decode cX11_isSound 12 = .ok (.aload_n 0, 1) := by decide +kernel
theorem eX11_isSound_13 : decode cX11_isSound 13 = .ok (.getfield 91, 3) := by decide +kernel
theorem eX11_isSound_16 : decode cX11_isSound 16 = .ok (.iload_n 2, 1) := by decide +kernel
theorem eX11_isSound_17 : decode cX11_isSound 17 = .ok (.iconst 0, 1) := by decide +kernel
theorem eX11_isSound_18 : decode cX11_isSound 18 = .ok (.iastore, 1) := by decide +kernel
theorem eX11_isSound_19 : decode cX11_isSound 19 = .ok (.iinc 2 1, 3) := by decide +kernel
theorem eX11_isSound_22 : decode cX11_isSound 22 = .ok (.goto (-18), 3) := by decide +kernel
theorem eX11_isSound_25 : decode cX11_isSound 25 = .ok (.iconst 0, 1) := by decide +kernel
theorem eX11_isSound_26 : decode cX11_isSound 26 = .ok (.istore_n 2, 1) := by decide +kernel
theorem eX11_isSound_27 : decode cX11_isSound 27 = .ok (.iload_n 2, 1) := by decide +kernel
theorem eX11_isSound_28 : decode cX11_isSound 28 = .ok (.aload_n 0, 1) := by decide +kernel
theorem eX11_isSound_29 : decode cX11_isSound 29 = .ok (.getfield 386, 3) := by decide +kernel
theorem eX11_isSound_32 : decode cX11_isSound 32 = .ok (.if_icmp .ge 85, 3) := by decide +kernel
theorem eX11_isSound_35 : decode cX11_isSound 35 = .ok (.aload_n 0, 1) := by decide +kernel
theorem eX11_isSound_36 : decode cX11_isSound 36 = .ok (.getfield 88, 3) := by decide +kernel
theorem eX11_isSound_39 : decode cX11_isSound 39 = .ok (.iload_n 2, 1) := by decide +kernel
theorem eX11_isSound_40 : decode cX11_isSound 40 = .ok (.iaload, 1) := by decide +kernel
theorem eX11_isSound_41 : decode cX11_isSound 41 = .ok (.iload_n 2, 1) := by decide +kernel
theorem eX11_isSound_42 : decode cX11_isSound 42 = .ok (.if_icmp .ne 69, 3) := by decide +kernel
theorem eX11_isSound_45 : decode cX11_isSound 45 = .ok (.aload_n 0, 1) := by decide +kernel
theorem eX11_isSound_46 : decode cX11_isSound 46 = .ok (.getfield 79, 3) := by decide +kernel
theorem eX11_isSound_49 : decode cX11_isSound 49 = .ok (.iload_n 2, 1) := by decide +kernel
theorem eX11_isSound_50 : decode cX11_isSound 50 = .ok (.iaload, 1) := by decide +kernel
theorem eX11_isSound_51 : decode cX11_isSound 51 = .ok (.invokestatic 441, 3) := by decide +kernel
theorem eX11_isSound_54 : decode cX11_isSound 54 = .ok (.ifCond .ne 6, 3) := by decide +kernel
theorem eX11_isSound_57 : decode cX11_isSound 57 = .ok (.goto 54, 3) := by decide +kernel
theorem eX11_isSound_60 : decode cX11_isSound 60 = .ok (.iinc 1 1, 3) := by decide +kernel
theorem eX11_isSound_63 : decode cX11_isSound 63 = .ok (.aload_n 0, 1) := by decide +kernel
theorem eX11_isSound_64 : decode cX11_isSound 64 = .ok (.getfield 91, 3) := by decide +kernel
theorem eX11_isSound_67 : decode cX11_isSound 67 = .ok (.aload_n 0, 1) := by decide +kernel
theorem eX11_isSound_68 : decode cX11_isSound 68 = .ok (.aload_n 0, 1) := by decide +kernel
theorem eX11_isSound_69 : decode cX11_isSound 69 = .ok (.getfield 82, 3) := by decide +kernel
theorem eX11_isSound_72 : decode cX11_isSound 72 = .ok (.iload_n 2, 1) := by decide +kernel
theorem eX11_isSound_73 : decode cX11_isSound 73 = .ok (.iaload, 1) := by decide +kernel
theorem eX11_isSound_74 : decode cX11_isSound 74 = .ok (.invokevirtual 438, 3) := by decide +kernel
theorem eX11_isSound_77 : decode cX11_isSound 77 = .ok (.dup2, 1) := by decide +kernel
theorem eX11_isSound_78 : decode cX11_isSound 78 = .ok (.iaload, 1) := by decide +kernel
theorem eX11_isSound_79 : decode cX11_isSound 79 = .ok (.iconst 1, 1) := by decide +kernel
theorem eX11_isSound_80 : decode cX11_isSound 80 = .ok (.iadd, 1) := by decide +kernel
theorem eX11_isSound_81 : decode cX11_isSound 81 = .ok (.iastore, 1) := by decide +kernel
theorem eX11_isSound_82 : decode cX11_isSound 82 = .ok (.aload_n 0, 1) := by decide +kernel
theorem eX11_isSound_83 : decode cX11_isSound 83 = .ok (.getfield 79, 3) := by decide +kernel
theorem eX11_isSound_86 : decode cX11_isSound 86 = .ok (.iload_n 2, 1) := by decide +kernel
theorem eX11_isSound_87 : decode cX11_isSound 87 = .ok (.iaload, 1) := by decide +kernel
theorem eX11_isSound_88 : decode cX11_isSound 88 = .ok (.iconst 3, 1) := by decide +kernel
theorem eX11_isSound_89 : decode cX11_isSound 89 = .ok (.if_icmp .eq 22, 3) := by decide +kernel
theorem eX11_isSound_92 : decode cX11_isSound 92 = .ok (.aload_n 0, 1) := by decide +kernel
theorem eX11_isSound_93 : decode cX11_isSound 93 = .ok (.getfield 91, 3) := by decide +kernel
theorem eX11_isSound_96 : decode cX11_isSound 96 = .ok (.aload_n 0, 1) := by decide +kernel
theorem eX11_isSound_97 : decode cX11_isSound 97 = .ok (.aload_n 0, 1) := by decide +kernel
theorem eX11_isSound_98 : decode cX11_isSound 98 = .ok (.getfield 85, 3) := by decide +kernel
theorem eX11_isSound_101 : decode cX11_isSound 101 = .ok (.iload_n 2, 1) := by decide +kernel
theorem eX11_isSound_102 : decode cX11_isSound 102 = .ok (.iaload, 1) := by decide +kernel
theorem eX11_isSound_103 : decode cX11_isSound 103 = .ok (.invokevirtual 438, 3) := by decide +kernel
theorem eX11_isSound_106 : decode cX11_isSound 106 = .ok (.dup2, 1) := by decide +kernel
theorem eX11_isSound_107 : decode cX11_isSound 107 = .ok (.iaload, 1) := by decide +kernel
theorem eX11_isSound_108 : decode cX11_isSound 108 = .ok (.iconst 1, 1) := by decide +kernel
theorem eX11_isSound_109 : decode cX11_isSound 109 = .ok (.iadd, 1) := by decide +kernel
theorem eX11_isSound_110 : decode cX11_isSound 110 = .ok (.iastore, 1) := by decide +kernel
theorem eX11_isSound_111 : decode cX11_isSound 111 = .ok (.iinc 2 1, 3) := by decide +kernel
theorem eX11_isSound_114 : decode cX11_isSound 114 = .ok (.goto (-87), 3) := by decide +kernel
theorem eX11_isSound_117 : decode cX11_isSound 117 = .ok (.iconst 0, 1) := by decide +kernel
theorem eX11_isSound_118 : decode cX11_isSound 118 = .ok (.istore_n 2, 1) := by decide +kernel
theorem eX11_isSound_119 : decode cX11_isSound 119 = .ok (.iconst 0, 1) := by decide +kernel
theorem eX11_isSound_120 : decode cX11_isSound 120 = .ok (.istore_n 3, 1) := by decide +kernel
theorem eX11_isSound_121 : decode cX11_isSound 121 = .ok (.iload_n 3, 1) := by decide +kernel
theorem eX11_isSound_122 : decode cX11_isSound 122 = .ok (.aload_n 0, 1) := by decide +kernel
theorem eX11_isSound_123 : decode cX11_isSound 123 = .ok (.getfield 386, 3) := by decide +kernel
theorem eX11_isSound_126 : decode cX11_isSound 126 = .ok (.if_icmp .ge 53, 3) := by decide +kernel
theorem eX11_isSound_129 : decode cX11_isSound 129 = .ok (.aload_n 0, 1) := by decide +kernel
theorem eX11_isSound_130 : decode cX11_isSound 130 = .ok (.getfield 88, 3) := by decide +kernel
theorem eX11_isSound_133 : decode cX11_isSound 133 = .ok (.iload_n 3, 1) := by decide +kernel
theorem eX11_isSound_134 : decode cX11_isSound 134 = .ok (.iaload, 1) := by decide +kernel
theorem eX11_isSound_135 : decode cX11_isSound 135 = .ok (.iload_n 3, 1) := by decide +kernel
theorem eX11_isSound_136 : decode cX11_isSound 136 = .ok (.if_icmp .ne 37, 3) := by decide +kernel
theorem eX11_isSound_139 : decode cX11_isSound 139 = .ok (.aload_n 0, 1) := by decide +kernel
theorem eX11_isSound_140 : decode cX11_isSound 140 = .ok (.getfield 79, 3) := by decide +kernel
theorem eX11_isSound_143 : decode cX11_isSound 143 = .ok (.iload_n 3, 1) := by decide +kernel
theorem eX11_isSound_144 : decode cX11_isSound 144 = .ok (.iaload, 1) := by decide +kernel
theorem eX11_isSound_145 : decode cX11_isSound 145 = .ok (.invokestatic 441, 3) := by decide +kernel
theorem eX11_isSound_148 : decode cX11_isSound 148 = .ok (.ifCond .eq 25, 3) := by decide +kernel
theorem eX11_isSound_151 : decode cX11_isSound 151 = .ok (.aload_n 0, 1) := by decide +kernel
theorem eX11_isSound_152 : decode cX11_isSound 152 = .ok (.getfield 91, 3) := by decide +kernel
theorem eX11_isSound_155 : decode cX11_isSound 155 = .ok (.iload_n 3, 1) := by decide +kernel
theorem eX11_isSound_156 : decode cX11_isSound 156 = .ok (.iaload, 1) := by decide +kernel
theorem eX11_isSound_157 : decode cX11_isSound 157 = .ok (.ifCond .le 6, 3) := by decide +kernel
theorem eX11_isSound_160 : decode cX11_isSound 160 = .ok (.goto 13, 3) := by decide +kernel
theorem eX11_isSound_163 : decode cX11_isSound 163 = .ok (.aload_n 0, 1) := by decide +kernel
theorem eX11_isSound_164 : decode cX11_isSound 164 = .ok (.getfield 94, 3) := by decide +kernel
theorem eX11_isSound_167 : decode cX11_isSound 167 = .ok (.iload_n 2, 1) := by decide +kernel
theorem eX11_isSound_168 : decode cX11_isSound 168 = .ok (.iload_n 3, 1) := by decide +kernel
theorem eX11_isSound_169 : decode cX11_isSound 169 = .ok (.iastore, 1) := by decide +kernel
theorem eX11_isSound_170 : decode cX11_isSound 170 = .ok (.iinc 2 1, 3) := by decide +kernel
theorem eX11_isSound_173 : decode cX11_isSound 173 = .ok (.iinc 3 1, 3) := by decide +kernel
theorem eX11_isSound_176 : decode cX11_isSound 176 = .ok (.goto (-55), 3) := by decide +kernel
theorem eX11_isSound_179 : decode cX11_isSound 179 = .ok (.iload_n 2, 1) := by decide +kernel
theorem eX11_isSound_180 : decode cX11_isSound 180 = .ok (.ifCond .le 61, 3) := by decide +kernel
theorem eX11_isSound_183 : decode cX11_isSound 183 = .ok (.iinc 2 (-1), 3) := by decide +kernel
theorem eX11_isSound_186 : decode cX11_isSound 186 = .ok (.aload_n 0, 1) := by decide +kernel
theorem eX11_isSound_187 : decode cX11_isSound 187 = .ok (.getfield 94, 3) := by decide +kernel
theorem eX11_isSound_190 : decode cX11_isSound 190 = .ok (.iload_n 2, 1) := by decide +kernel
theorem eX11_isSound_191 : decode cX11_isSound 191 = .ok (.iaload, 1) := by decide +kernel
theorem eX11_isSound_192 : decode cX11_isSound 192 = .ok (.istore_n 3, 1) := by decide +kernel
theorem eX11_isSound_193 : decode cX11_isSound 193 = .ok (.iinc 1 (-1), 3) := by decide +kernel
theorem eX11_isSound_196 : decode cX11_isSound 196 = .ok (.aload_n 0, 1) := by decide +kernel
theorem eX11_isSound_197 : decode cX11_isSound 197 = .ok (.aload_n 0, 1) := by decide +kernel
theorem eX11_isSound_198 : decode cX11_isSound 198 = .ok (.aload_n 0, 1) := by decide +kernel
theorem eX11_isSound_199 : decode cX11_isSound 199 = .ok (.getfield 82, 3) := by decide +kernel
theorem eX11_isSound_202 : decode cX11_isSound 202 = .ok (.iload_n 3, 1) := by decide +kernel
theorem eX11_isSound_203 : decode cX11_isSound 203 = .ok (.iaload, 1) := by decide +kernel
theorem eX11_isSound_204 : decode cX11_isSound 204 = .ok (.invokevirtual 438, 3) := by decide +kernel
theorem eX11_isSound_207 : decode cX11_isSound 207 = .ok (.iload_n 2, 1) := by decide +kernel
theorem eX11_isSound_208 : decode cX11_isSound 208 = .ok (.invokevirtual 444, 3) := by decide +kernel
theorem eX11_isSound_211 : decode cX11_isSound 211 = .ok (.istore_n 2, 1) := by decide +kernel
theorem eX11_isSound_212 : decode cX11_isSound 212 = .ok (.aload_n 0, 1) := by decide +kernel
theorem eX11_isSound_213 : decode cX11_isSound 213 = .ok (.getfield 79, 3) := by decide +kernel
theorem eX11_isSound_216 : decode cX11_isSound 216 = .ok (.iload_n 3, 1) := by decide +kernel
theorem eX11_isSound_217 : decode cX11_isSound 217 = .ok (.iaload, 1) := by decide +kernel
theorem eX11_isSound_218 : decode cX11_isSound 218 = .ok (.iconst 3, 1) := by decide +kernel
theorem eX11_isSound_219 : decode cX11_isSound 219 = .ok (.if_icmp .eq 19, 3) := by decide +kernel
theorem eX11_isSound_222 : decode cX11_isSound 222 = .ok (.aload_n 0, 1) := by decide +kernel
theorem eX11_isSound_223 : decode cX11_isSound 223 = .ok (.aload_n 0, 1) := by decide +kernel
theorem eX11_isSound_224 : decode cX11_isSound 224 = .ok (.aload_n 0, 1) := by decide +kernel
theorem eX11_isSound_225 : decode cX11_isSound 225 = .ok (.getfield 85, 3) := by decide +kernel
theorem eX11_isSound_228 : decode cX11_isSound 228 = .ok (.iload_n 3, 1) := by decide +kernel
theorem eX11_isSound_229 : decode cX11_isSound 229 = .ok (.iaload, 1) := by decide +kernel
theorem eX11_isSound_230 : decode cX11_isSound 230 = .ok (.invokevirtual 438, 3) := by decide +kernel
theorem eX11_isSound_233 : decode cX11_isSound 233 = .ok (.iload_n 2, 1) := by decide +kernel
theorem eX11_isSound_234 : decode cX11_isSound 234 = .ok (.invokevirtual 444, 3) := by decide +kernel
theorem eX11_isSound_237 : decode cX11_isSound 237 = .ok (.istore_n 2, 1) := by decide +kernel
theorem eX11_isSound_238 : decode cX11_isSound 238 = .ok (.goto (-59), 3) := by decide +kernel
theorem eX11_isSound_241 : decode cX11_isSound 241 = .ok (.iload_n 1, 1) := by decide +kernel
theorem eX11_isSound_242 : decode cX11_isSound 242 = .ok (.ifCond .ne 7, 3) := by decide +kernel
theorem eX11_isSound_245 : decode cX11_isSound 245 = .ok (.iconst 1, 1) := by decide +kernel
theorem eX11_isSound_246 : decode cX11_isSound 246 = .ok (.goto 4, 3) := by decide +kernel
theorem eX11_isSound_249 : decode cX11_isSound 249 = .ok (.iconst 0, 1) := by decide +kernel
theorem eX11_isSound_250 : decode cX11_isSound 250 = .ok (.ireturn, 1) := by decide +kernel
def C_X11_isSound (s : ST) (Q : ST → Int → Prop) : Prop := bx <| RA s → q_met mX11_isSound (qs layM s) [.ref 139] (PB layM Q)
theorem C_X11_isSound.mono {s : ST} {Q Q' : ST → Int → Prop} (h : C_X11_isSound s Q) (hq : ∀ s v, Q s v → Q' s v) : C_X11_isSound s Q' := ⟨fun hA => q_met.mono (h.1 hA) (fun _ _ => PB.mono hq), trivial⟩
def K_X11_isSound_179 (s : ST) (a1 : Int) (a2 : Int) (Q : ST → Int → Prop) : Prop := bx <| RA s → R32 a1 → R32 a2 → q_K mX11_isSound (qs layM s) 0 0 179 [(0, .ref 139), (1, .int (Int32.ofInt a1)), (2, .int (Int32.ofInt a2))] [] (q_fin mX11_isSound (PB layM Q))
def K_X11_isSound_121 (s : ST) (a1 : Int) (a2 : Int) (a3 : Int) (Q : ST → Int → Prop) : Prop := bx <| RA s → R32 a1 → R32 a2 → R32 a3 → q_K mX11_isSound (qs layM s) 0 0 121 [(0, .ref 139), (1, .int (Int32.ofInt a1)), (2, .int (Int32.ofInt a2)), (3, .int (Int32.ofInt a3))] [] (q_fin mX11_isSound (PB layM Q))
def K_X11_isSound_27 (s : ST) (a1 : Int) (a2 : Int) (Q : ST → Int → Prop) : Prop := bx <| RA s → R32 a1 → R32 a2 → q_K mX11_isSound (qs layM s) 0 0 27 [(0, .ref 139), (1, .int (Int32.ofInt a1)), (2, .int (Int32.ofInt a2))] [] (q_fin mX11_isSound (PB layM Q))
def K_X11_isSound_4 (s : ST) (a1 : Int) (a2 : Int) (Q : ST → Int → Prop) : Prop := bx <| RA s → R32 a1 → R32 a2 → q_K mX11_isSound (qs layM s) 0 0 4 [(0, .ref 139), (1, .int (Int32.ofInt a1)), (2, .int (Int32.ofInt a2))] [] (q_fin mX11_isSound (PB layM Q))
set_option maxRecDepth 20000 in
theorem s_X11_isSound_179 {s : ST} {a1 : Int} {a2 : Int} {Q : ST → Int → Prop} (h : RA s → R32 a1 → R32 a2 → ((a2 ≤ 0 → ((¬ a1 = 0 → Q s 0) ∧ (a1 = 0 → Q s 1))) ∧ (¬ a2 ≤ 0 → (R32 (a2 - 1) ∧ (((0 : Int) ≤ (a2 - 1) ∧ (a2 - 1) < 12000) ∧ (R32 (a1 - 1) ∧ (((0 : Int) ≤ s.1 166 (a2 - 1) ∧ s.1 166 (a2 - 1) < 12000) ∧ (C_X11_find s (s.1 162 (s.1 166 (a2 - 1))) (fun s5 v5 => (C_X11_takesOff s5 v5 (a2 - 1) (fun s6 v6 => ((s6.1 161 (s.1 166 (a2 - 1)) = 3 → K_X11_isSound_179 s6 (a1 - 1) v6 Q) ∧ (¬ s6.1 161 (s.1 166 (a2 - 1)) = 3 → (C_X11_find s6 (s6.1 163 (s.1 166 (a2 - 1))) (fun s7 v7 => (C_X11_takesOff s7 v7 v6 (fun s8 v8 => K_X11_isSound_179 s8 (a1 - 1) v8 Q))))))))))))))))) : K_X11_isSound_179 s a1 a2 Q := by
  refine ⟨?_, trivial⟩
  intro hA hra1 hra2
  have h := h hA hra1 hra2
  refine q_iload_n eX11_isSound_179 rfl ?_
  refine q_iz_le (tgt := 241) (a := a2) eX11_isSound_180 (by decide) (ofz hra2) (fun c180 => ?_) (fun c180 => ?_)
  · have h := h.1 c180
    refine q_iload_n eX11_isSound_241 rfl ?_
    refine q_iz_ne (tgt := 249) (a := a1) eX11_isSound_242 (by decide) (ofz hra1) (fun c242 => ?_) (fun c242 => ?_)
    · have h := h.1 c242
      refine q_ic (v := Int32.ofInt 0) eX11_isSound_249 rfl ?_
      exact q_zret eX11_isSound_250 rfl (z01 (Or.inl rfl)) ⟨_, _, rfl, hA, (Or.inl rfl), rfl, h⟩
    · have h := h.2 c242
      refine q_ic (v := Int32.ofInt 1) eX11_isSound_245 rfl ?_
      refine q_goto (tgt := 250) eX11_isSound_246 (by decide) ?_
      exact q_zret eX11_isSound_250 rfl (z01 (Or.inr rfl)) ⟨_, _, rfl, hA, (Or.inr rfl), rfl, h⟩
  · have h := h.2 c180
    have r1 := h.1
    have h := h.2
    refine z_incN (m := 1) eX11_isSound_183 rfl (Nat.le_of_ble_eq_true rfl) rfl ?_
    refine q_aload_n eX11_isSound_186 rfl ?_
    refine q_getR (c := 11) (n := 0) (k := 38) (a := 166) eX11_isSound_187 rfl (by decide) (by decide) fX11_94 rfl rfl ?_
    refine q_iload_n eX11_isSound_190 rfl ?_
    have f2 := h.1
    have h := h.2
    refine z_iald (n := 12000) eX11_isSound_191 rfl (ofz r1) f2 ?_
    refine q_topI (v := Int32.ofInt (s.1 166 (a2 - 1))) rfl ?_
    refine q_istore_n eX11_isSound_192 (Nat.le_of_ble_eq_true rfl) ?_
    have r3 := h.1
    have h := h.2
    refine z_incN (m := 1) eX11_isSound_193 rfl (Nat.le_of_ble_eq_true rfl) rfl ?_
    refine q_aload_n eX11_isSound_196 rfl ?_
    refine q_aload_n eX11_isSound_197 rfl ?_
    refine q_aload_n eX11_isSound_198 rfl ?_
    refine q_getR (c := 11) (n := 0) (k := 34) (a := 162) eX11_isSound_199 rfl (by decide) (by decide) fX11_82 rfl rfl ?_
    refine q_iload_n eX11_isSound_202 rfl ?_
    have f4 := h.1
    have h := h.2
    refine z_iald (n := 12000) eX11_isSound_203 rfl (ofz (hA _ _)) f4 ?_
    refine q_topI (v := Int32.ofInt (s.1 162 (s.1 166 (a2 - 1)))) rfl ?_
    refine q_V1 (ci := 11) (n := 0) eX11_isSound_204 DX11_find lX11_438 rfl (by decide) rfl rfl rfl rfl (h.1 hA (hA _ _)) ?_
    rintro _ _ ⟨s5, v5, rfl, hA5, r5, rfl, h⟩
    refine q_iload_n eX11_isSound_207 rfl ?_
    refine q_V2 (ci := 11) (n := 0) eX11_isSound_208 DX11_takesOff lX11_444 rfl (by decide) rfl rfl rfl rfl (h.1 hA5 r5 r1) ?_
    rintro _ _ ⟨s6, v6, rfl, hA6, r6, rfl, h⟩
    refine q_istore_n eX11_isSound_211 (Nat.le_of_ble_eq_true rfl) ?_
    refine q_aload_n eX11_isSound_212 rfl ?_
    refine q_getR (c := 11) (n := 0) (k := 33) (a := 161) eX11_isSound_213 rfl (by decide) (by decide) fX11_79 rfl rfl ?_
    refine q_iload_n eX11_isSound_216 rfl ?_
    refine z_iald (n := 12000) eX11_isSound_217 rfl (ofz (hA _ _)) f4 ?_
    refine q_topI (v := Int32.ofInt (s6.1 161 (s.1 166 (a2 - 1)))) rfl ?_
    refine q_ic (v := Int32.ofInt 3) eX11_isSound_218 rfl ?_
    refine q_cz_eq (tgt := 238) (a := s6.1 161 (s.1 166 (a2 - 1))) (b := 3) eX11_isSound_219 (by decide) (ofz (hA6 _ _)) (ofz (r32l rfl)) (fun c219 => ?_) (fun c219 => ?_)
    · have h := h.1 c219
      refine q_goto (tgt := 179) eX11_isSound_238 (by decide) ?_
      exact q_subL rfl (h.1 hA6 r3 r6)
    · have h := h.2 c219
      refine q_aload_n eX11_isSound_222 rfl ?_
      refine q_aload_n eX11_isSound_223 rfl ?_
      refine q_aload_n eX11_isSound_224 rfl ?_
      refine q_getR (c := 11) (n := 0) (k := 35) (a := 163) eX11_isSound_225 rfl (by decide) (by decide) fX11_85 rfl rfl ?_
      refine q_iload_n eX11_isSound_228 rfl ?_
      refine z_iald (n := 12000) eX11_isSound_229 rfl (ofz (hA _ _)) f4 ?_
      refine q_topI (v := Int32.ofInt (s6.1 163 (s.1 166 (a2 - 1)))) rfl ?_
      refine q_V1 (ci := 11) (n := 0) eX11_isSound_230 DX11_find lX11_438 rfl (by decide) rfl rfl rfl rfl (h.1 hA6 (hA6 _ _)) ?_
      rintro _ _ ⟨s7, v7, rfl, hA7, r7, rfl, h⟩
      refine q_iload_n eX11_isSound_233 rfl ?_
      refine q_V2 (ci := 11) (n := 0) eX11_isSound_234 DX11_takesOff lX11_444 rfl (by decide) rfl rfl rfl rfl (h.1 hA7 r7 r6) ?_
      rintro _ _ ⟨s8, v8, rfl, hA8, r8, rfl, h⟩
      refine q_istore_n eX11_isSound_237 (Nat.le_of_ble_eq_true rfl) ?_
      refine q_goto (tgt := 179) eX11_isSound_238 (by decide) ?_
      exact q_subL rfl (h.1 hA8 r3 r8)
set_option maxRecDepth 20000 in
theorem s_X11_isSound_121 {s : ST} {a1 : Int} {a2 : Int} {a3 : Int} {Q : ST → Int → Prop} (h : RA s → R32 a1 → R32 a2 → R32 a3 → ((s.1 139 46 ≤ a3 → K_X11_isSound_179 s a1 a2 Q) ∧ (¬ s.1 139 46 ≤ a3 → (((0 : Int) ≤ a3 ∧ a3 < 12000) ∧ ((¬ s.1 164 a3 = a3 → (R32 (a3 + 1) ∧ K_X11_isSound_121 s a1 a2 (a3 + 1) Q)) ∧ (s.1 164 a3 = a3 → ((¬ (¬ (s.1 161 a3) ≤ 2) → (R32 (a3 + 1) ∧ K_X11_isSound_121 s a1 a2 (a3 + 1) Q)) ∧ ((¬ (s.1 161 a3) ≤ 2) → ((s.1 165 a3 ≤ 0 → (((0 : Int) ≤ a2 ∧ a2 < 12000) ∧ (R32 (a2 + 1) ∧ (R32 (a3 + 1) ∧ K_X11_isSound_121 (ui s 166 a2 a3) a1 (a2 + 1) (a3 + 1) Q)))) ∧ (¬ s.1 165 a3 ≤ 0 → (R32 (a3 + 1) ∧ K_X11_isSound_121 s a1 a2 (a3 + 1) Q))))))))))) : K_X11_isSound_121 s a1 a2 a3 Q := by
  refine ⟨?_, trivial⟩
  intro hA hra1 hra2 hra3
  have h := h hA hra1 hra2 hra3
  refine q_iload_n eX11_isSound_121 rfl ?_
  refine q_aload_n eX11_isSound_122 rfl ?_
  refine q_getf (c := 11) (n := 0) (k := 46) (v := .int (Int32.ofInt (s.1 139 46))) eX11_isSound_123 rfl (by decide) (by decide) fX11_386 rfl ?_
  refine q_cz_ge (tgt := 179) (a := a3) (b := s.1 139 46) eX11_isSound_126 (by decide) (ofz hra3) (ofz (hA _ _)) (fun c126 => ?_) (fun c126 => ?_)
  · have h := h.1 c126
    exact q_subL rfl (h.1 hA hra1 hra2)
  · have h := h.2 c126
    refine q_aload_n eX11_isSound_129 rfl ?_
    refine q_getR (c := 11) (n := 0) (k := 36) (a := 164) eX11_isSound_130 rfl (by decide) (by decide) fX11_88 rfl rfl ?_
    refine q_iload_n eX11_isSound_133 rfl ?_
    have f1 := h.1
    have h := h.2
    refine z_iald (n := 12000) eX11_isSound_134 rfl (ofz hra3) f1 ?_
    refine q_topI (v := Int32.ofInt (s.1 164 a3)) rfl ?_
    refine q_iload_n eX11_isSound_135 rfl ?_
    refine q_cz_ne (tgt := 173) (a := s.1 164 a3) (b := a3) eX11_isSound_136 (by decide) (ofz (hA _ _)) (ofz hra3) (fun c136 => ?_) (fun c136 => ?_)
    · have h := h.1 c136
      have r2 := h.1
      have h := h.2
      refine z_inc (m := 1) eX11_isSound_173 rfl (Nat.le_of_ble_eq_true rfl) rfl ?_
      refine q_goto (tgt := 121) eX11_isSound_176 (by decide) ?_
      exact q_subL rfl (h.1 hA hra1 hra2 r2)
    · have h := h.2 c136
      refine q_aload_n eX11_isSound_139 rfl ?_
      refine q_getR (c := 11) (n := 0) (k := 33) (a := 161) eX11_isSound_140 rfl (by decide) (by decide) fX11_79 rfl rfl ?_
      refine q_iload_n eX11_isSound_143 rfl ?_
      refine z_iald (n := 12000) eX11_isSound_144 rfl (ofz hra3) f1 ?_
      refine q_topI (v := Int32.ofInt (s.1 161 a3)) rfl ?_
      refine q_S1 eX11_isSound_145 DX11_isMade lX11_441 rfl rfl rfl (p_X11_isMade hA (hA _ _)) ?_
      rintro _ _ ⟨b3, rfl, rfl⟩
      refine q_iz_eq (tgt := 173) (a := (F_X11_isMade s (s.1 161 a3))) eX11_isSound_148 (by decide) (ofz (r01 b3)) (fun c148 => ?_) (fun c148 => ?_)
      · have h := h.1 (fun q => n_X11_isMade.mpr q c148)
        have r4 := h.1
        have h := h.2
        refine z_inc (m := 1) eX11_isSound_173 rfl (Nat.le_of_ble_eq_true rfl) rfl ?_
        refine q_goto (tgt := 121) eX11_isSound_176 (by decide) ?_
        exact q_subL rfl (h.1 hA hra1 hra2 r4)
      · have h := h.2 (n_X11_isMade.mp c148)
        refine q_aload_n eX11_isSound_151 rfl ?_
        refine q_getR (c := 11) (n := 0) (k := 37) (a := 165) eX11_isSound_152 rfl (by decide) (by decide) fX11_91 rfl rfl ?_
        refine q_iload_n eX11_isSound_155 rfl ?_
        refine z_iald (n := 12000) eX11_isSound_156 rfl (ofz hra3) f1 ?_
        refine q_topI (v := Int32.ofInt (s.1 165 a3)) rfl ?_
        refine q_iz_le (tgt := 163) (a := s.1 165 a3) eX11_isSound_157 (by decide) (ofz (hA _ _)) (fun c157 => ?_) (fun c157 => ?_)
        · have h := h.1 c157
          refine q_aload_n eX11_isSound_163 rfl ?_
          refine q_getR (c := 11) (n := 0) (k := 38) (a := 166) eX11_isSound_164 rfl (by decide) (by decide) fX11_94 rfl rfl ?_
          refine q_iload_n eX11_isSound_167 rfl ?_
          refine q_iload_n eX11_isSound_168 rfl ?_
          have f5 := h.1
          have h := h.2
          refine z_iast (n := 12000) eX11_isSound_169 rfl (ofz hra2) f5  ?_
          have r6 := h.1
          have h := h.2
          refine z_inc (m := 1) eX11_isSound_170 rfl (Nat.le_of_ble_eq_true rfl) rfl ?_
          have r7 := h.1
          have h := h.2
          refine z_inc (m := 1) eX11_isSound_173 rfl (Nat.le_of_ble_eq_true rfl) rfl ?_
          refine q_goto (tgt := 121) eX11_isSound_176 (by decide) ?_
          exact q_subL rfl (h.1 (ra_ui hA hra3) hra1 r6 r7)
        · have h := h.2 c157
          refine q_goto (tgt := 173) eX11_isSound_160 (by decide) ?_
          have r8 := h.1
          have h := h.2
          refine z_inc (m := 1) eX11_isSound_173 rfl (Nat.le_of_ble_eq_true rfl) rfl ?_
          refine q_goto (tgt := 121) eX11_isSound_176 (by decide) ?_
          exact q_subL rfl (h.1 hA hra1 hra2 r8)
set_option maxRecDepth 20000 in
theorem s_X11_isSound_27 {s : ST} {a1 : Int} {a2 : Int} {Q : ST → Int → Prop} (h : RA s → R32 a1 → R32 a2 → ((s.1 139 46 ≤ a2 → K_X11_isSound_121 s a1 0 0 Q) ∧ (¬ s.1 139 46 ≤ a2 → (((0 : Int) ≤ a2 ∧ a2 < 12000) ∧ ((¬ s.1 164 a2 = a2 → (R32 (a2 + 1) ∧ K_X11_isSound_27 s a1 (a2 + 1) Q)) ∧ (s.1 164 a2 = a2 → (((¬ (s.1 161 a2) ≤ 2) → (R32 (a1 + 1) ∧ (C_X11_find s (s.1 162 a2) (fun s5 v5 => (((0 : Int) ≤ v5 ∧ v5 < 12000) ∧ (R32 (s5.1 165 v5 + 1) ∧ ((s5.1 161 a2 = 3 → (R32 (a2 + 1) ∧ K_X11_isSound_27 (ui s5 165 v5 (s5.1 165 v5 + 1)) (a1 + 1) (a2 + 1) Q)) ∧ (¬ s5.1 161 a2 = 3 → (C_X11_find (ui s5 165 v5 (s5.1 165 v5 + 1)) (s5.1 163 a2) (fun s9 v9 => (((0 : Int) ≤ v9 ∧ v9 < 12000) ∧ (R32 (s9.1 165 v9 + 1) ∧ (R32 (a2 + 1) ∧ K_X11_isSound_27 (ui s9 165 v9 (s9.1 165 v9 + 1)) (a1 + 1) (a2 + 1) Q))))))))))))) ∧ (¬ (¬ (s.1 161 a2) ≤ 2) → (R32 (a2 + 1) ∧ K_X11_isSound_27 s a1 (a2 + 1) Q))))))))) : K_X11_isSound_27 s a1 a2 Q := by
  refine ⟨?_, trivial⟩
  intro hA hra1 hra2
  have h := h hA hra1 hra2
  refine q_iload_n eX11_isSound_27 rfl ?_
  refine q_aload_n eX11_isSound_28 rfl ?_
  refine q_getf (c := 11) (n := 0) (k := 46) (v := .int (Int32.ofInt (s.1 139 46))) eX11_isSound_29 rfl (by decide) (by decide) fX11_386 rfl ?_
  refine q_cz_ge (tgt := 117) (a := a2) (b := s.1 139 46) eX11_isSound_32 (by decide) (ofz hra2) (ofz (hA _ _)) (fun c32 => ?_) (fun c32 => ?_)
  · have h := h.1 c32
    refine q_ic (v := Int32.ofInt 0) eX11_isSound_117 rfl ?_
    refine q_istore_n eX11_isSound_118 (Nat.le_of_ble_eq_true rfl) ?_
    refine q_ic (v := Int32.ofInt 0) eX11_isSound_119 rfl ?_
    refine q_istore_n eX11_isSound_120 (Nat.le_of_ble_eq_true rfl) ?_
    exact q_subL rfl (h.1 hA hra1 (r32l rfl) (r32l rfl))
  · have h := h.2 c32
    refine q_aload_n eX11_isSound_35 rfl ?_
    refine q_getR (c := 11) (n := 0) (k := 36) (a := 164) eX11_isSound_36 rfl (by decide) (by decide) fX11_88 rfl rfl ?_
    refine q_iload_n eX11_isSound_39 rfl ?_
    have f1 := h.1
    have h := h.2
    refine z_iald (n := 12000) eX11_isSound_40 rfl (ofz hra2) f1 ?_
    refine q_topI (v := Int32.ofInt (s.1 164 a2)) rfl ?_
    refine q_iload_n eX11_isSound_41 rfl ?_
    refine q_cz_ne (tgt := 111) (a := s.1 164 a2) (b := a2) eX11_isSound_42 (by decide) (ofz (hA _ _)) (ofz hra2) (fun c42 => ?_) (fun c42 => ?_)
    · have h := h.1 c42
      have r2 := h.1
      have h := h.2
      refine z_inc (m := 1) eX11_isSound_111 rfl (Nat.le_of_ble_eq_true rfl) rfl ?_
      refine q_goto (tgt := 27) eX11_isSound_114 (by decide) ?_
      exact q_subL rfl (h.1 hA hra1 r2)
    · have h := h.2 c42
      refine q_aload_n eX11_isSound_45 rfl ?_
      refine q_getR (c := 11) (n := 0) (k := 33) (a := 161) eX11_isSound_46 rfl (by decide) (by decide) fX11_79 rfl rfl ?_
      refine q_iload_n eX11_isSound_49 rfl ?_
      refine z_iald (n := 12000) eX11_isSound_50 rfl (ofz hra2) f1 ?_
      refine q_topI (v := Int32.ofInt (s.1 161 a2)) rfl ?_
      refine q_S1 eX11_isSound_51 DX11_isMade lX11_441 rfl rfl rfl (p_X11_isMade hA (hA _ _)) ?_
      rintro _ _ ⟨b3, rfl, rfl⟩
      refine q_iz_ne (tgt := 60) (a := (F_X11_isMade s (s.1 161 a2))) eX11_isSound_54 (by decide) (ofz (r01 b3)) (fun c54 => ?_) (fun c54 => ?_)
      · have h := h.1 (n_X11_isMade.mp c54)
        have r4 := h.1
        have h := h.2
        refine z_inc (m := 1) eX11_isSound_60 rfl (Nat.le_of_ble_eq_true rfl) rfl ?_
        refine q_aload_n eX11_isSound_63 rfl ?_
        refine q_getR (c := 11) (n := 0) (k := 37) (a := 165) eX11_isSound_64 rfl (by decide) (by decide) fX11_91 rfl rfl ?_
        refine q_aload_n eX11_isSound_67 rfl ?_
        refine q_aload_n eX11_isSound_68 rfl ?_
        refine q_getR (c := 11) (n := 0) (k := 34) (a := 162) eX11_isSound_69 rfl (by decide) (by decide) fX11_82 rfl rfl ?_
        refine q_iload_n eX11_isSound_72 rfl ?_
        refine z_iald (n := 12000) eX11_isSound_73 rfl (ofz hra2) f1 ?_
        refine q_topI (v := Int32.ofInt (s.1 162 a2)) rfl ?_
        refine q_V1 (ci := 11) (n := 0) eX11_isSound_74 DX11_find lX11_438 rfl (by decide) rfl rfl rfl rfl (h.1 hA (hA _ _)) ?_
        rintro _ _ ⟨s5, v5, rfl, hA5, r5, rfl, h⟩
        refine q_dup2 eX11_isSound_77 rfl rfl ?_
        have f6 := h.1
        have h := h.2
        refine z_iald (n := 12000) eX11_isSound_78 rfl (ofz r5) f6 ?_
        refine q_topI (v := Int32.ofInt (s5.1 165 v5)) rfl ?_
        refine q_ic (v := Int32.ofInt 1) eX11_isSound_79 rfl ?_
        refine z_iadd eX11_isSound_80 ?_
        have r7 := h.1
        have h := h.2
        refine z_iast (n := 12000) eX11_isSound_81 rfl (ofz r5) f6  ?_
        refine q_aload_n eX11_isSound_82 rfl ?_
        refine q_getR (c := 11) (n := 0) (k := 33) (a := 161) eX11_isSound_83 rfl (by decide) (by decide) fX11_79 rfl rfl ?_
        refine q_iload_n eX11_isSound_86 rfl ?_
        refine z_iald (n := 12000) eX11_isSound_87 rfl (ofz hra2) f1 ?_
        refine q_topI (v := Int32.ofInt (s5.1 161 a2)) rfl ?_
        refine q_ic (v := Int32.ofInt 3) eX11_isSound_88 rfl ?_
        refine q_cz_eq (tgt := 111) (a := s5.1 161 a2) (b := 3) eX11_isSound_89 (by decide) (ofz (hA5 _ _)) (ofz (r32l rfl)) (fun c89 => ?_) (fun c89 => ?_)
        · have h := h.1 c89
          have r8 := h.1
          have h := h.2
          refine z_inc (m := 1) eX11_isSound_111 rfl (Nat.le_of_ble_eq_true rfl) rfl ?_
          refine q_goto (tgt := 27) eX11_isSound_114 (by decide) ?_
          exact q_subL rfl (h.1 (ra_ui hA5 r7) r4 r8)
        · have h := h.2 c89
          refine q_aload_n eX11_isSound_92 rfl ?_
          refine q_getR (c := 11) (n := 0) (k := 37) (a := 165) eX11_isSound_93 rfl (by decide) (by decide) fX11_91 rfl rfl ?_
          refine q_aload_n eX11_isSound_96 rfl ?_
          refine q_aload_n eX11_isSound_97 rfl ?_
          refine q_getR (c := 11) (n := 0) (k := 35) (a := 163) eX11_isSound_98 rfl (by decide) (by decide) fX11_85 rfl rfl ?_
          refine q_iload_n eX11_isSound_101 rfl ?_
          refine z_iald (n := 12000) eX11_isSound_102 rfl (ofz hra2) f1 ?_
          refine q_topI (v := Int32.ofInt (s5.1 163 a2)) rfl ?_
          refine q_V1 (ci := 11) (n := 0) eX11_isSound_103 DX11_find lX11_438 rfl (by decide) rfl rfl rfl rfl (h.1 (ra_ui hA5 r7) (hA5 _ _)) ?_
          rintro _ _ ⟨s9, v9, rfl, hA9, r9, rfl, h⟩
          refine q_dup2 eX11_isSound_106 rfl rfl ?_
          have f10 := h.1
          have h := h.2
          refine z_iald (n := 12000) eX11_isSound_107 rfl (ofz r9) f10 ?_
          refine q_topI (v := Int32.ofInt (s9.1 165 v9)) rfl ?_
          refine q_ic (v := Int32.ofInt 1) eX11_isSound_108 rfl ?_
          refine z_iadd eX11_isSound_109 ?_
          have r11 := h.1
          have h := h.2
          refine z_iast (n := 12000) eX11_isSound_110 rfl (ofz r9) f10  ?_
          have r12 := h.1
          have h := h.2
          refine z_inc (m := 1) eX11_isSound_111 rfl (Nat.le_of_ble_eq_true rfl) rfl ?_
          refine q_goto (tgt := 27) eX11_isSound_114 (by decide) ?_
          exact q_subL rfl (h.1 (ra_ui hA9 r11) r4 r12)
      · have h := h.2 (fun q => n_X11_isMade.mpr q c54)
        refine q_goto (tgt := 111) eX11_isSound_57 (by decide) ?_
        have r13 := h.1
        have h := h.2
        refine z_inc (m := 1) eX11_isSound_111 rfl (Nat.le_of_ble_eq_true rfl) rfl ?_
        refine q_goto (tgt := 27) eX11_isSound_114 (by decide) ?_
        exact q_subL rfl (h.1 hA hra1 r13)
set_option maxRecDepth 20000 in
theorem s_X11_isSound_4 {s : ST} {a1 : Int} {a2 : Int} {Q : ST → Int → Prop} (h : RA s → R32 a1 → R32 a2 → ((s.1 139 46 ≤ a2 → K_X11_isSound_27 s a1 0 Q) ∧ (¬ s.1 139 46 ≤ a2 → (((0 : Int) ≤ a2 ∧ a2 < 12000) ∧ (R32 (a2 + 1) ∧ K_X11_isSound_4 (ui s 165 a2 0) a1 (a2 + 1) Q))))) : K_X11_isSound_4 s a1 a2 Q := by
  refine ⟨?_, trivial⟩
  intro hA hra1 hra2
  have h := h hA hra1 hra2
  refine q_iload_n eX11_isSound_4 rfl ?_
  refine q_aload_n eX11_isSound_5 rfl ?_
  refine q_getf (c := 11) (n := 0) (k := 46) (v := .int (Int32.ofInt (s.1 139 46))) eX11_isSound_6 rfl (by decide) (by decide) fX11_386 rfl ?_
  refine q_cz_ge (tgt := 25) (a := a2) (b := s.1 139 46) eX11_isSound_9 (by decide) (ofz hra2) (ofz (hA _ _)) (fun c9 => ?_) (fun c9 => ?_)
  · have h := h.1 c9
    refine q_ic (v := Int32.ofInt 0) eX11_isSound_25 rfl ?_
    refine q_istore_n eX11_isSound_26 (Nat.le_of_ble_eq_true rfl) ?_
    exact q_subL rfl (h.1 hA hra1 (r32l rfl))
  · have h := h.2 c9
    refine q_aload_n eX11_isSound_12 rfl ?_
    refine q_getR (c := 11) (n := 0) (k := 37) (a := 165) eX11_isSound_13 rfl (by decide) (by decide) fX11_91 rfl rfl ?_
    refine q_iload_n eX11_isSound_16 rfl ?_
    refine q_ic (v := Int32.ofInt 0) eX11_isSound_17 rfl ?_
    have f1 := h.1
    have h := h.2
    refine z_iast (n := 12000) eX11_isSound_18 rfl (ofz hra2) f1  ?_
    have r2 := h.1
    have h := h.2
    refine z_inc (m := 1) eX11_isSound_19 rfl (Nat.le_of_ble_eq_true rfl) rfl ?_
    refine q_goto (tgt := 4) eX11_isSound_22 (by decide) ?_
    exact q_subL rfl (h.1 (ra_ui hA (r32l rfl)) hra1 r2)
set_option maxRecDepth 20000 in
theorem s_X11_isSound {s : ST} {Q : ST → Int → Prop} (h : RA s → K_X11_isSound_4 s 0 0 Q) : C_X11_isSound s Q := by
  refine ⟨?_, trivial⟩
  intro hA
  have h := h hA
  refine q_enter (by decide) (Nat.le_of_ble_eq_true rfl) ?_
  refine q_ic (v := Int32.ofInt 0) eX11_isSound_0 rfl ?_
  refine q_istore_n eX11_isSound_1 (Nat.le_of_ble_eq_true rfl) ?_
  refine q_ic (v := Int32.ofInt 0) eX11_isSound_2 rfl ?_
  refine q_istore_n eX11_isSound_3 (Nat.le_of_ble_eq_true rfl) ?_
  exact q_subL rfl (h.1 hA (r32l rfl) (r32l rfl))
theorem eX11_makes_0 : decode cX11_makes 0 = .ok (.iconst 0, 1) := by decide +kernel
theorem eX11_makes_1 : decode cX11_makes 1 = .ok (.istore_n 3, 1) := by decide +kernel
theorem eX11_makes_2 : decode cX11_makes 2 = .ok (.iload_n 3, 1) := by decide +kernel
theorem eX11_makes_3 : decode cX11_makes 3 = .ok (.aload_n 0, 1) := by decide +kernel
theorem eX11_makes_4 : decode cX11_makes 4 = .ok (.getfield 386, 3) := by decide +kernel
theorem eX11_makes_7 : decode cX11_makes 7 = .ok (.if_icmp .ge 16, 3) := by decide +kernel
theorem eX11_makes_10 : decode cX11_makes 10 = .ok (.aload_n 0, 1) := by decide +kernel
theorem eX11_makes_11 : decode cX11_makes 11 = .ok (.getfield 88, 3) := by decide +kernel
theorem eX11_makes_14 : decode cX11_makes 14 = .ok (.iload_n 3, 1) := by decide +kernel
theorem eX11_makes_15 : decode cX11_makes 15 = .ok (.iload_n 3, 1) := by decide +kernel
theorem eX11_makes_16 : decode cX11_makes 16 = .ok (.iastore, 1) := by decide +kernel
theorem eX11_makes_17 : decode cX11_makes 17 = .ok (.iinc 3 1, 3) := by decide +kernel
theorem eX11_makes_20 : decode cX11_makes 20 = .ok (.goto (-18), 3) := by decide +kernel
theorem eX11_makes_23 : decode cX11_makes 23 = .ok (.iconst 0, 1) := by decide +kernel
theorem eX11_makes_24 : decode cX11_makes 24 = .ok (.istore_n 3, 1) := by decide +kernel
theorem eX11_makes_25 : decode cX11_makes 25 = .ok (.iload_n 3, 1) := by decide +kernel
theorem eX11_makes_26 : decode cX11_makes 26 = .ok (.aload_n 0, 1) := by decide +kernel
theorem eX11_makes_27 : decode cX11_makes 27 = .ok (.getfield 393, 3) := by decide +kernel
theorem eX11_makes_30 : decode cX11_makes 30 = .ok (.if_icmp .ge 45, 3) := by decide +kernel
theorem eX11_makes_33 : decode cX11_makes 33 = .ok (.lload_n 1, 1) := by decide +kernel
theorem eX11_makes_34 : decode cX11_makes 34 = .ok (.aload_n 0, 1) := by decide +kernel
theorem eX11_makes_35 : decode cX11_makes 35 = .ok (.getfield 97, 3) := by decide +kernel
theorem eX11_makes_38 : decode cX11_makes 38 = .ok (.iload_n 3, 1) := by decide +kernel
theorem eX11_makes_39 : decode cX11_makes 39 = .ok (.iaload, 1) := by decide +kernel
theorem eX11_makes_40 : decode cX11_makes 40 = .ok (.lshr, 1) := by decide +kernel
theorem eX11_makes_41 : decode cX11_makes 41 = .ok (.lconst 1, 1) := by decide +kernel
theorem eX11_makes_42 : decode cX11_makes 42 = .ok (.land, 1) := by decide +kernel
theorem eX11_makes_43 : decode cX11_makes 43 = .ok (.lconst 1, 1) := by decide +kernel
theorem eX11_makes_44 : decode cX11_makes 44 = .ok (.lcmp, 1) := by decide +kernel
theorem eX11_makes_45 : decode cX11_makes 45 = .ok (.ifCond .ne 24, 3) := by decide +kernel
theorem eX11_makes_48 : decode cX11_makes 48 = .ok (.aload_n 0, 1) := by decide +kernel
theorem eX11_makes_49 : decode cX11_makes 49 = .ok (.aload_n 0, 1) := by decide +kernel
theorem eX11_makes_50 : decode cX11_makes 50 = .ok (.getfield 100, 3) := by decide +kernel
theorem eX11_makes_53 : decode cX11_makes 53 = .ok (.iload_n 3, 1) := by decide +kernel
theorem eX11_makes_54 : decode cX11_makes 54 = .ok (.iaload, 1) := by decide +kernel
theorem eX11_makes_55 : decode cX11_makes 55 = .ok (.aload_n 0, 1) := by decide +kernel
theorem eX11_makes_56 : decode cX11_makes 56 = .ok (.getfield 103, 3) := by decide +kernel
theorem eX11_makes_59 : decode cX11_makes 59 = .ok (.iload_n 3, 1) := by decide +kernel
theorem eX11_makes_60 : decode cX11_makes 60 = .ok (.iaload, 1) := by decide +kernel
theorem eX11_makes_61 : decode cX11_makes 61 = .ok (.invokevirtual 447, 3) := by decide +kernel
theorem eX11_makes_64 : decode cX11_makes 64 = .ok (.ifCond .ne 5, 3) := by decide +kernel
theorem eX11_makes_67 : decode cX11_makes 67 = .ok (.iconst 0, 1) := by decide +kernel
theorem eX11_makes_68 : decode cX11_makes 68 = .ok (.ireturn, 1) := by decide +kernel
theorem eX11_makes_69 : decode cX11_makes 69 = .ok (.iinc 3 1, 3) := by decide +kernel
theorem eX11_makes_72 : decode cX11_makes 72 = .ok (.goto (-47), 3) := by decide +kernel
theorem eX11_makes_75 : decode cX11_makes 75 = .ok (.aload_n 0, 1) := by decide +kernel
theorem eX11_makes_76 : decode cX11_makes 76 = .ok (.invokevirtual 451, 3) := by decide +kernel
theorem eX11_makes_79 : decode cX11_makes 79 = .ok (.ireturn, 1) := by decide +kernel
def C_X11_makes (s : ST) (p : Int64) (Q : ST → Int → Prop) : Prop := bx <| RA s → q_met mX11_makes (qs layM s) [.ref 139, .long p] (PB layM Q)
theorem C_X11_makes.mono {s : ST} {p : Int64} {Q Q' : ST → Int → Prop} (h : C_X11_makes s p Q) (hq : ∀ s v, Q s v → Q' s v) : C_X11_makes s p Q' := ⟨fun hA => q_met.mono (h.1 hA) (fun _ _ => PB.mono hq), trivial⟩
def K_X11_makes_25 (s : ST) (a1 : Int64) (a3 : Int) (Q : ST → Int → Prop) : Prop := bx <| RA s → R32 a3 → q_K mX11_makes (qs layM s) 0 0 25 [(0, .ref 139), (1, .long a1), (3, .int (Int32.ofInt a3))] [] (q_fin mX11_makes (PB layM Q))
def K_X11_makes_2 (s : ST) (a1 : Int64) (a3 : Int) (Q : ST → Int → Prop) : Prop := bx <| RA s → R32 a3 → q_K mX11_makes (qs layM s) 0 0 2 [(0, .ref 139), (1, .long a1), (3, .int (Int32.ofInt a3))] [] (q_fin mX11_makes (PB layM Q))
set_option maxRecDepth 20000 in
theorem s_X11_makes_25 {s : ST} {a1 : Int64} {a3 : Int} {Q : ST → Int → Prop} (h : RA s → R32 a3 → ((s.1 139 47 ≤ a3 → (C_X11_isSound s (fun s1 v1 => (v1 = 0 ∨ v1 = 1) → Q s1 v1))) ∧ (¬ s.1 139 47 ≤ a3 → (((0 : Int) ≤ a3 ∧ a3 < 1300) ∧ ((¬ ((lshr a1 (s.1 167 a3)) &&& 1) = 1 → (R32 (a3 + 1) ∧ K_X11_makes_25 s a1 (a3 + 1) Q)) ∧ (((lshr a1 (s.1 167 a3)) &&& 1) = 1 → (C_X11_unite s (s.1 168 a3) (s.1 169 a3) (fun s4 v4 => (v4 = 0 ∨ v4 = 1) → ((¬ v4 = 0 → (R32 (a3 + 1) ∧ K_X11_makes_25 s4 a1 (a3 + 1) Q)) ∧ (v4 = 0 → Q s4 0)))))))))) : K_X11_makes_25 s a1 a3 Q := by
  refine ⟨?_, trivial⟩
  intro hA hra3
  have h := h hA hra3
  refine q_iload_n eX11_makes_25 rfl ?_
  refine q_aload_n eX11_makes_26 rfl ?_
  refine q_getf (c := 11) (n := 0) (k := 47) (v := .int (Int32.ofInt (s.1 139 47))) eX11_makes_27 rfl (by decide) (by decide) fX11_393 rfl ?_
  refine q_cz_ge (tgt := 75) (a := a3) (b := s.1 139 47) eX11_makes_30 (by decide) (ofz hra3) (ofz (hA _ _)) (fun c30 => ?_) (fun c30 => ?_)
  · have h := h.1 c30
    refine q_aload_n eX11_makes_75 rfl ?_
    refine q_V0 (ci := 11) (n := 0) eX11_makes_76 DX11_isSound lX11_451 rfl (by decide) rfl rfl rfl rfl (h.1 hA) ?_
    rintro _ _ ⟨s1, v1, rfl, hA1, b1, rfl, h⟩
    have h := h b1
    exact q_zret eX11_makes_79 rfl (z01 b1) ⟨_, _, rfl, hA1, b1, rfl, h⟩
  · have h := h.2 c30
    refine q_lload_n eX11_makes_33 rfl ?_
    refine q_aload_n eX11_makes_34 rfl ?_
    refine q_getR (c := 11) (n := 0) (k := 39) (a := 167) eX11_makes_35 rfl (by decide) (by decide) fX11_97 rfl rfl ?_
    refine q_iload_n eX11_makes_38 rfl ?_
    have f2 := h.1
    have h := h.2
    refine z_iald (n := 1300) eX11_makes_39 rfl (ofz hra3) f2 ?_
    refine q_topI (v := Int32.ofInt (s.1 167 a3)) rfl ?_
    refine z_lshr eX11_makes_40 ?_
    refine q_lc (v := 1) eX11_makes_41 rfl ?_
    refine q_land eX11_makes_42 ?_
    refine q_lc (v := 1) eX11_makes_43 rfl ?_
    refine q_lcmp eX11_makes_44 ?_
    refine z_lc_ne (tgt := 69) eX11_makes_45 (by decide) (fun c45 => ?_) (fun c45 => ?_)
    · have h := h.1 c45
      have r3 := h.1
      have h := h.2
      refine z_inc (m := 1) eX11_makes_69 rfl (Nat.le_of_ble_eq_true rfl) rfl ?_
      refine q_goto (tgt := 25) eX11_makes_72 (by decide) ?_
      exact q_subL rfl (h.1 hA r3)
    · have h := h.2 c45
      refine q_aload_n eX11_makes_48 rfl ?_
      refine q_aload_n eX11_makes_49 rfl ?_
      refine q_getR (c := 11) (n := 0) (k := 40) (a := 168) eX11_makes_50 rfl (by decide) (by decide) fX11_100 rfl rfl ?_
      refine q_iload_n eX11_makes_53 rfl ?_
      refine z_iald (n := 1300) eX11_makes_54 rfl (ofz hra3) f2 ?_
      refine q_topI (v := Int32.ofInt (s.1 168 a3)) rfl ?_
      refine q_aload_n eX11_makes_55 rfl ?_
      refine q_getR (c := 11) (n := 0) (k := 41) (a := 169) eX11_makes_56 rfl (by decide) (by decide) fX11_103 rfl rfl ?_
      refine q_iload_n eX11_makes_59 rfl ?_
      refine z_iald (n := 1300) eX11_makes_60 rfl (ofz hra3) f2 ?_
      refine q_topI (v := Int32.ofInt (s.1 169 a3)) rfl ?_
      refine q_V2 (ci := 11) (n := 0) eX11_makes_61 DX11_unite lX11_447 rfl (by decide) rfl rfl rfl rfl (h.1 hA (hA _ _) (hA _ _)) ?_
      rintro _ _ ⟨s4, v4, rfl, hA4, b4, rfl, h⟩
      have h := h b4
      refine q_iz_ne (tgt := 69) (a := v4) eX11_makes_64 (by decide) (ofz (r01 b4)) (fun c64 => ?_) (fun c64 => ?_)
      · have h := h.1 c64
        have r5 := h.1
        have h := h.2
        refine z_inc (m := 1) eX11_makes_69 rfl (Nat.le_of_ble_eq_true rfl) rfl ?_
        refine q_goto (tgt := 25) eX11_makes_72 (by decide) ?_
        exact q_subL rfl (h.1 hA4 r5)
      · have h := h.2 c64
        refine q_ic (v := Int32.ofInt 0) eX11_makes_67 rfl ?_
        exact q_zret eX11_makes_68 rfl (z01 (Or.inl rfl)) ⟨_, _, rfl, hA4, (Or.inl rfl), rfl, h⟩
set_option maxRecDepth 20000 in
theorem s_X11_makes_2 {s : ST} {a1 : Int64} {a3 : Int} {Q : ST → Int → Prop} (h : RA s → R32 a3 → ((s.1 139 46 ≤ a3 → K_X11_makes_25 s a1 0 Q) ∧ (¬ s.1 139 46 ≤ a3 → (((0 : Int) ≤ a3 ∧ a3 < 12000) ∧ (R32 (a3 + 1) ∧ K_X11_makes_2 (ui s 164 a3 a3) a1 (a3 + 1) Q))))) : K_X11_makes_2 s a1 a3 Q := by
  refine ⟨?_, trivial⟩
  intro hA hra3
  have h := h hA hra3
  refine q_iload_n eX11_makes_2 rfl ?_
  refine q_aload_n eX11_makes_3 rfl ?_
  refine q_getf (c := 11) (n := 0) (k := 46) (v := .int (Int32.ofInt (s.1 139 46))) eX11_makes_4 rfl (by decide) (by decide) fX11_386 rfl ?_
  refine q_cz_ge (tgt := 23) (a := a3) (b := s.1 139 46) eX11_makes_7 (by decide) (ofz hra3) (ofz (hA _ _)) (fun c7 => ?_) (fun c7 => ?_)
  · have h := h.1 c7
    refine q_ic (v := Int32.ofInt 0) eX11_makes_23 rfl ?_
    refine q_istore_n eX11_makes_24 (Nat.le_of_ble_eq_true rfl) ?_
    exact q_subL rfl (h.1 hA (r32l rfl))
  · have h := h.2 c7
    refine q_aload_n eX11_makes_10 rfl ?_
    refine q_getR (c := 11) (n := 0) (k := 36) (a := 164) eX11_makes_11 rfl (by decide) (by decide) fX11_88 rfl rfl ?_
    refine q_iload_n eX11_makes_14 rfl ?_
    refine q_iload_n eX11_makes_15 rfl ?_
    have f1 := h.1
    have h := h.2
    refine z_iast (n := 12000) eX11_makes_16 rfl (ofz hra3) f1  ?_
    have r2 := h.1
    have h := h.2
    refine z_inc (m := 1) eX11_makes_17 rfl (Nat.le_of_ble_eq_true rfl) rfl ?_
    refine q_goto (tgt := 2) eX11_makes_20 (by decide) ?_
    exact q_subL rfl (h.1 (ra_ui hA hra3) r2)
set_option maxRecDepth 20000 in
theorem s_X11_makes {s : ST} {p : Int64} {Q : ST → Int → Prop} (h : RA s → K_X11_makes_2 s p 0 Q) : C_X11_makes s p Q := by
  refine ⟨?_, trivial⟩
  intro hA
  have h := h hA
  refine q_enter (by decide) (Nat.le_of_ble_eq_true rfl) ?_
  refine q_ic (v := Int32.ofInt 0) eX11_makes_0 rfl ?_
  refine q_istore_n eX11_makes_1 (Nat.le_of_ble_eq_true rfl) ?_
  exact q_subL rfl (h.1 hA (r32l rfl))
theorem eX11_allPlaces_0 : decode cX11_allPlaces 0 = .ok (.lconst 1, 1) := by decide +kernel
theorem eX11_allPlaces_1 : decode cX11_allPlaces 1 = .ok (.aload_n 0, 1) := by decide +kernel
theorem eX11_allPlaces_2 : decode cX11_allPlaces 2 = .ok (.getfield 20, 3) := by decide +kernel
theorem eX11_allPlaces_5 : decode cX11_allPlaces 5 = .ok (.aload_n 0, 1) := by decide +kernel
theorem eX11_allPlaces_6 : decode cX11_allPlaces 6 = .ok (.getfield 321, 3) := by decide +kernel
theorem eX11_allPlaces_9 : decode cX11_allPlaces 9 = .ok (.iaload, 1) := by decide +kernel
theorem eX11_allPlaces_10 : decode cX11_allPlaces 10 = .ok (.lshl, 1) := by decide +kernel
theorem eX11_allPlaces_11 : decode cX11_allPlaces 11 = .ok (.lconst 1, 1) := by decide +kernel
theorem eX11_allPlaces_12 : decode cX11_allPlaces 12 = .ok (.lsub, 1) := by decide +kernel
theorem eX11_allPlaces_13 : decode cX11_allPlaces 13 = .ok (.lreturn, 1) := by decide +kernel
def C_X11_allPlaces (s : ST) (Q : ST → Int64 → Prop) : Prop := bx <| RA s → q_met mX11_allPlaces (qs layM s) [.ref 139] (PL layM Q)
theorem C_X11_allPlaces.mono {s : ST} {Q Q' : ST → Int64 → Prop} (h : C_X11_allPlaces s Q) (hq : ∀ s v, Q s v → Q' s v) : C_X11_allPlaces s Q' := ⟨fun hA => q_met.mono (h.1 hA) (fun _ _ => PL.mono hq), trivial⟩
set_option maxRecDepth 20000 in
theorem s_X11_allPlaces {s : ST} {Q : ST → Int64 → Prop} (h : RA s → (((0 : Int) ≤ s.1 139 28 ∧ s.1 139 28 < 6) ∧ Q s ((lshl 1 (s.1 142 (s.1 139 28))) - 1))) : C_X11_allPlaces s Q := by
  refine ⟨?_, trivial⟩
  intro hA
  have h := h hA
  refine q_enter (by decide) (Nat.le_of_ble_eq_true rfl) ?_
  refine q_lc (v := 1) eX11_allPlaces_0 rfl ?_
  refine q_aload_n eX11_allPlaces_1 rfl ?_
  refine q_getR (c := 11) (n := 0) (k := 11) (a := 142) eX11_allPlaces_2 rfl (by decide) (by decide) fX11_20 rfl rfl ?_
  refine q_aload_n eX11_allPlaces_5 rfl ?_
  refine q_getf (c := 11) (n := 0) (k := 28) (v := .int (Int32.ofInt (s.1 139 28))) eX11_allPlaces_6 rfl (by decide) (by decide) fX11_321 rfl ?_
  have f1 := h.1
  have h := h.2
  refine z_iald (n := 6) eX11_allPlaces_9 rfl (ofz (hA _ _)) f1 ?_
  refine q_topI (v := Int32.ofInt (s.1 142 (s.1 139 28))) rfl ?_
  refine z_lshl eX11_allPlaces_10 ?_
  refine q_lc (v := 1) eX11_allPlaces_11 rfl ?_
  refine q_lsub eX11_allPlaces_12 ?_
  exact q_lret eX11_allPlaces_13 rfl ⟨_, _, rfl, hA, rfl, h⟩
def F_X11_allPlaces (s : ST) : Int64 := ((lshl 1 (s.1 142 (s.1 139 28))) - 1)
abbrev P_X11_allPlaces (s : ST) : Prop := ((0 : Int) ≤ s.1 139 28 ∧ s.1 139 28 < 6)
theorem w_X11_allPlaces {s : ST} (h : P_X11_allPlaces s) : C_X11_allPlaces s (fun s' v => s' = s ∧ v = F_X11_allPlaces s) := by
  refine s_X11_allPlaces (fun hA => ?_)
  unfold P_X11_allPlaces at h
  refine ⟨h, ?_⟩
  exact ⟨rfl, rfl⟩
theorem p_X11_allPlaces {s : ST} (h : P_X11_allPlaces s) : RA s → q_met mX11_allPlaces (qs layM s) [.ref 139] (fun σ r => σ = qs layM s ∧ r = some (.long (F_X11_allPlaces s))) := fun hA => q_met.mono ((w_X11_allPlaces h).1 hA) (by
  rintro _ _ ⟨s1, v1, rfl, h1, rfl, rfl, rfl⟩
  exact ⟨rfl, rfl⟩)
theorem eX11_layNow_0 : decode cX11_layNow 0 = .ok (.aload_n 0, 1) := by decide +kernel
theorem eX11_layNow_1 : decode cX11_layNow 1 = .ok (.getfield 118, 3) := by decide +kernel
theorem eX11_layNow_4 : decode cX11_layNow 4 = .ok (.aload_n 0, 1) := by decide +kernel
theorem eX11_layNow_5 : decode cX11_layNow 5 = .ok (.getfield 321, 3) := by decide +kernel
theorem eX11_layNow_8 : decode cX11_layNow 8 = .ok (.if_icmp .eq 11, 3) := by decide +kernel
theorem eX11_layNow_11 : decode cX11_layNow 11 = .ok (.aload_n 0, 1) := by decide +kernel
theorem eX11_layNow_12 : decode cX11_layNow 12 = .ok (.aload_n 0, 1) := by decide +kernel
theorem eX11_layNow_13 : decode cX11_layNow 13 = .ok (.getfield 321, 3) := by decide +kernel
theorem eX11_layNow_16 : decode cX11_layNow 16 = .ok (.invokevirtual 454, 3) := by decide +kernel
theorem eX11_layNow_19 : decode cX11_layNow 19 = .ok (.return_, 1) := by decide +kernel
def C_X11_layNow (s : ST) (Q : ST → Prop) : Prop := bx <| RA s → q_met mX11_layNow (qs layM s) [.ref 139] (PV layM Q)
theorem C_X11_layNow.mono {s : ST} {Q Q' : ST → Prop} (h : C_X11_layNow s Q) (hq : ∀ s, Q s → Q' s) : C_X11_layNow s Q' := ⟨fun hA => q_met.mono (h.1 hA) (fun _ _ => PV.mono hq), trivial⟩
set_option maxRecDepth 20000 in
theorem s_X11_layNow {s : ST} {Q : ST → Prop} (h : RA s → ((s.1 139 49 = s.1 139 28 → Q s) ∧ (¬ s.1 139 49 = s.1 139 28 → (C_X11_layOut s (s.1 139 28) (fun s1 => Q s1))))) : C_X11_layNow s Q := by
  refine ⟨?_, trivial⟩
  intro hA
  have h := h hA
  refine q_enter (by decide) (Nat.le_of_ble_eq_true rfl) ?_
  refine q_aload_n eX11_layNow_0 rfl ?_
  refine q_getf (c := 11) (n := 0) (k := 49) (v := .int (Int32.ofInt (s.1 139 49))) eX11_layNow_1 rfl (by decide) (by decide) fX11_118 rfl ?_
  refine q_aload_n eX11_layNow_4 rfl ?_
  refine q_getf (c := 11) (n := 0) (k := 28) (v := .int (Int32.ofInt (s.1 139 28))) eX11_layNow_5 rfl (by decide) (by decide) fX11_321 rfl ?_
  refine q_cz_eq (tgt := 19) (a := s.1 139 49) (b := s.1 139 28) eX11_layNow_8 (by decide) (ofz (hA _ _)) (ofz (hA _ _)) (fun c8 => ?_) (fun c8 => ?_)
  · have h := h.1 c8
    exact q_ret eX11_layNow_19 rfl ⟨_, rfl, hA, rfl, h⟩
  · have h := h.2 c8
    refine q_aload_n eX11_layNow_11 rfl ?_
    refine q_aload_n eX11_layNow_12 rfl ?_
    refine q_getf (c := 11) (n := 0) (k := 28) (v := .int (Int32.ofInt (s.1 139 28))) eX11_layNow_13 rfl (by decide) (by decide) fX11_321 rfl ?_
    refine q_V1 (ci := 11) (n := 0) eX11_layNow_16 DX11_layOut lX11_454 rfl (by decide) rfl rfl rfl rfl (h.1 hA (hA _ _)) ?_
    rintro _ _ ⟨s1, rfl, hA1, rfl, h⟩
    exact q_ret eX11_layNow_19 rfl ⟨_, rfl, hA1, rfl, h⟩
theorem eX11_clash_0 : decode cX11_clash 0 = .ok (.aload_n 0, 1) := by decide +kernel
theorem eX11_clash_1 : decode cX11_clash 1 = .ok (.lload_n 1, 1) := by decide +kernel
theorem eX11_clash_2 : decode cX11_clash 2 = .ok (.invokevirtual 457, 3) := by decide +kernel
theorem eX11_clash_5 : decode cX11_clash 5 = .ok (.ifCond .ne 7, 3) := by decide +kernel
theorem eX11_clash_8 : decode cX11_clash 8 = .ok (.iconst 1, 1) := by decide +kernel
theorem eX11_clash_9 : decode cX11_clash 9 = .ok (.goto 4, 3) := by decide +kernel
theorem eX11_clash_12 : decode cX11_clash 12 = .ok (.iconst 0, 1) := by decide +kernel
theorem eX11_clash_13 : decode cX11_clash 13 = .ok (.ireturn, 1) := by decide +kernel
def C_X11_clash (s : ST) (p : Int64) (Q : ST → Int → Prop) : Prop := bx <| RA s → q_met mX11_clash (qs layM s) [.ref 139, .long p] (PB layM Q)
theorem C_X11_clash.mono {s : ST} {p : Int64} {Q Q' : ST → Int → Prop} (h : C_X11_clash s p Q) (hq : ∀ s v, Q s v → Q' s v) : C_X11_clash s p Q' := ⟨fun hA => q_met.mono (h.1 hA) (fun _ _ => PB.mono hq), trivial⟩
set_option maxRecDepth 20000 in
theorem s_X11_clash {s : ST} {p : Int64} {Q : ST → Int → Prop} (h : RA s → (C_X11_makes s p (fun s1 v1 => (v1 = 0 ∨ v1 = 1) → ((¬ v1 = 0 → Q s1 0) ∧ (v1 = 0 → Q s1 1))))) : C_X11_clash s p Q := by
  refine ⟨?_, trivial⟩
  intro hA
  have h := h hA
  refine q_enter (by decide) (Nat.le_of_ble_eq_true rfl) ?_
  refine q_aload_n eX11_clash_0 rfl ?_
  refine q_lload_n eX11_clash_1 rfl ?_
  refine q_V1 (ci := 11) (n := 0) eX11_clash_2 DX11_makes lX11_457 rfl (by decide) rfl rfl rfl rfl (h.1 hA) ?_
  rintro _ _ ⟨s1, v1, rfl, hA1, b1, rfl, h⟩
  have h := h b1
  refine q_iz_ne (tgt := 12) (a := v1) eX11_clash_5 (by decide) (ofz (r01 b1)) (fun c5 => ?_) (fun c5 => ?_)
  · have h := h.1 c5
    refine q_ic (v := Int32.ofInt 0) eX11_clash_12 rfl ?_
    exact q_zret eX11_clash_13 rfl (z01 (Or.inl rfl)) ⟨_, _, rfl, hA1, (Or.inl rfl), rfl, h⟩
  · have h := h.2 c5
    refine q_ic (v := Int32.ofInt 1) eX11_clash_8 rfl ?_
    refine q_goto (tgt := 13) eX11_clash_9 (by decide) ?_
    exact q_zret eX11_clash_13 rfl (z01 (Or.inr rfl)) ⟨_, _, rfl, hA1, (Or.inr rfl), rfl, h⟩
theorem eX11_fits_0 : decode cX11_fits 0 = .ok (.aload_n 0, 1) := by decide +kernel
theorem eX11_fits_1 : decode cX11_fits 1 = .ok (.invokevirtual 460, 3) := by decide +kernel
theorem eX11_fits_4 : decode cX11_fits 4 = .ok (.aload_n 0, 1) := by decide +kernel
theorem eX11_fits_5 : decode cX11_fits 5 = .ok (.aload_n 0, 1) := by decide +kernel
theorem eX11_fits_6 : decode cX11_fits 6 = .ok (.invokevirtual 463, 3) := by decide +kernel
theorem eX11_fits_9 : decode cX11_fits 9 = .ok (.invokevirtual 467, 3) := by decide +kernel
theorem eX11_fits_12 : decode cX11_fits 12 = .ok (.ifCond .eq 7, 3) := by decide +kernel
theorem eX11_fits_15 : decode cX11_fits 15 = .ok (.iconst 0, 1) := by decide +kernel
theorem eX11_fits_16 : decode cX11_fits 16 = .ok (.goto 4, 3) := by decide +kernel
theorem eX11_fits_19 : decode cX11_fits 19 = .ok (.iconst 1, 1) := by decide +kernel
theorem eX11_fits_20 : decode cX11_fits 20 = .ok (.ireturn, 1) := by decide +kernel
def C_X11_fits (s : ST) (Q : ST → Int → Prop) : Prop := bx <| RA s → q_met mX11_fits (qs layM s) [.ref 139] (PI layM Q)
theorem C_X11_fits.mono {s : ST} {Q Q' : ST → Int → Prop} (h : C_X11_fits s Q) (hq : ∀ s v, Q s v → Q' s v) : C_X11_fits s Q' := ⟨fun hA => q_met.mono (h.1 hA) (fun _ _ => PI.mono hq), trivial⟩
set_option maxRecDepth 20000 in
theorem s_X11_fits {s : ST} {Q : ST → Int → Prop} (h : RA s → (C_X11_layNow s (fun s1 => (P_X11_allPlaces s1 ∧ (C_X11_clash s1 ((lshl 1 (s1.1 142 (s1.1 139 28))) - 1) (fun s4 v4 => (v4 = 0 ∨ v4 = 1) → ((v4 = 0 → Q s4 1) ∧ (¬ v4 = 0 → Q s4 0)))))))) : C_X11_fits s Q := by
  refine ⟨?_, trivial⟩
  intro hA
  have h := h hA
  refine q_enter (by decide) (Nat.le_of_ble_eq_true rfl) ?_
  refine q_aload_n eX11_fits_0 rfl ?_
  refine q_V0 (ci := 11) (n := 0) eX11_fits_1 DX11_layNow lX11_460 rfl (by decide) rfl rfl rfl rfl (h.1 hA) ?_
  rintro _ _ ⟨s1, rfl, hA1, rfl, h⟩
  refine q_aload_n eX11_fits_4 rfl ?_
  refine q_aload_n eX11_fits_5 rfl ?_
  have f3 := h.1
  have h := h.2
  refine q_V0 (ci := 11) (n := 0) eX11_fits_6 DX11_allPlaces lX11_463 rfl (by decide) rfl rfl rfl rfl (p_X11_allPlaces f3 hA1) ?_
  rintro _ _ ⟨rfl, rfl⟩
  refine q_V1 (ci := 11) (n := 0) eX11_fits_9 DX11_clash lX11_467 rfl (by decide) rfl rfl rfl rfl (h.1 hA1) ?_
  rintro _ _ ⟨s4, v4, rfl, hA4, b4, rfl, h⟩
  have h := h b4
  refine q_iz_eq (tgt := 19) (a := v4) eX11_fits_12 (by decide) (ofz (r01 b4)) (fun c12 => ?_) (fun c12 => ?_)
  · have h := h.1 c12
    refine q_ic (v := Int32.ofInt 1) eX11_fits_19 rfl ?_
    exact q_iret eX11_fits_20 rfl ⟨_, _, rfl, hA4, (r32l rfl), rfl, h⟩
  · have h := h.2 c12
    refine q_ic (v := Int32.ofInt 0) eX11_fits_15 rfl ?_
    refine q_goto (tgt := 20) eX11_fits_16 (by decide) ?_
    exact q_iret eX11_fits_20 rfl ⟨_, _, rfl, hA4, (r32l rfl), rfl, h⟩
theorem eX11_clashes_0 : decode cX11_clashes 0 = .ok (.lload_n 1, 1) := by decide +kernel
theorem eX11_clashes_1 : decode cX11_clashes 1 = .ok (.lconst 0, 1) := by decide +kernel
theorem eX11_clashes_2 : decode cX11_clashes 2 = .ok (.lcmp, 1) := by decide +kernel
theorem eX11_clashes_3 : decode cX11_clashes 3 = .ok (.ifCond .lt 12, 3) := by decide +kernel
theorem eX11_clashes_6 : decode cX11_clashes 6 = .ok (.lload_n 1, 1) := by decide +kernel
theorem eX11_clashes_7 : decode cX11_clashes 7 = .ok (.aload_n 0, 1) := by decide +kernel
theorem eX11_clashes_8 : decode cX11_clashes 8 = .ok (.invokevirtual 463, 3) := by decide +kernel
theorem eX11_clashes_11 : decode cX11_clashes 11 = .ok (.lcmp, 1) := by decide +kernel
theorem eX11_clashes_12 : decode cX11_clashes 12 = .ok (.ifCond .le 5, 3) := by decide +kernel
theorem eX11_clashes_15 : decode cX11_clashes 15 = .ok (.iconst (-1), 1) := by decide +kernel
theorem eX11_clashes_16 : decode cX11_clashes 16 = .ok (.ireturn, 1) := by decide +kernel
theorem eX11_clashes_17 : decode cX11_clashes 17 = .ok (.aload_n 0, 1) := by decide +kernel
theorem eX11_clashes_18 : decode cX11_clashes 18 = .ok (.invokevirtual 460, 3) := by decide +kernel
theorem eX11_clashes_21 : decode cX11_clashes 21 = .ok (.aload_n 0, 1) := by decide +kernel
theorem eX11_clashes_22 : decode cX11_clashes 22 = .ok (.lload_n 1, 1) := by decide +kernel
theorem eX11_clashes_23 : decode cX11_clashes 23 = .ok (.invokevirtual 467, 3) := by decide +kernel
theorem eX11_clashes_26 : decode cX11_clashes 26 = .ok (.ifCond .eq 7, 3) := by decide +kernel
theorem eX11_clashes_29 : decode cX11_clashes 29 = .ok (.iconst 1, 1) := by decide +kernel
theorem eX11_clashes_30 : decode cX11_clashes 30 = .ok (.goto 4, 3) := by decide +kernel
theorem eX11_clashes_33 : decode cX11_clashes 33 = .ok (.iconst 0, 1) := by decide +kernel
theorem eX11_clashes_34 : decode cX11_clashes 34 = .ok (.ireturn, 1) := by decide +kernel
def C_X11_clashes (s : ST) (p : Int64) (Q : ST → Int → Prop) : Prop := bx <| RA s → q_met mX11_clashes (qs layM s) [.ref 139, .long p] (PI layM Q)
theorem C_X11_clashes.mono {s : ST} {p : Int64} {Q Q' : ST → Int → Prop} (h : C_X11_clashes s p Q) (hq : ∀ s v, Q s v → Q' s v) : C_X11_clashes s p Q' := ⟨fun hA => q_met.mono (h.1 hA) (fun _ _ => PI.mono hq), trivial⟩
set_option maxRecDepth 20000 in
theorem s_X11_clashes {s : ST} {p : Int64} {Q : ST → Int → Prop} (h : RA s → ((p < 0 → Q s (-1)) ∧ (¬ p < 0 → (P_X11_allPlaces s ∧ ((¬ ((lshl 1 (s.1 142 (s.1 139 28))) - 1) < p → (C_X11_layNow s (fun s3 => (C_X11_clash s3 p (fun s4 v4 => (v4 = 0 ∨ v4 = 1) → ((v4 = 0 → Q s4 0) ∧ (¬ v4 = 0 → Q s4 1))))))) ∧ (((lshl 1 (s.1 142 (s.1 139 28))) - 1) < p → Q s (-1))))))) : C_X11_clashes s p Q := by
  refine ⟨?_, trivial⟩
  intro hA
  have h := h hA
  refine q_enter (by decide) (Nat.le_of_ble_eq_true rfl) ?_
  refine q_lload_n eX11_clashes_0 rfl ?_
  refine q_lc (v := 0) eX11_clashes_1 rfl ?_
  refine q_lcmp eX11_clashes_2 ?_
  refine z_lc_lt (tgt := 15) eX11_clashes_3 (by decide) (fun c3 => ?_) (fun c3 => ?_)
  · have h := h.1 c3
    refine q_ic (v := Int32.ofInt (-1)) eX11_clashes_15 rfl ?_
    exact q_iret eX11_clashes_16 rfl ⟨_, _, rfl, hA, (r32l rfl), rfl, h⟩
  · have h := h.2 c3
    refine q_lload_n eX11_clashes_6 rfl ?_
    refine q_aload_n eX11_clashes_7 rfl ?_
    have f2 := h.1
    have h := h.2
    refine q_V0 (ci := 11) (n := 0) eX11_clashes_8 DX11_allPlaces lX11_463 rfl (by decide) rfl rfl rfl rfl (p_X11_allPlaces f2 hA) ?_
    rintro _ _ ⟨rfl, rfl⟩
    refine q_lcmp eX11_clashes_11 ?_
    refine z_lc_le (tgt := 17) eX11_clashes_12 (by decide) (fun c12 => ?_) (fun c12 => ?_)
    · have h := h.1 c12
      refine q_aload_n eX11_clashes_17 rfl ?_
      refine q_V0 (ci := 11) (n := 0) eX11_clashes_18 DX11_layNow lX11_460 rfl (by decide) rfl rfl rfl rfl (h.1 hA) ?_
      rintro _ _ ⟨s3, rfl, hA3, rfl, h⟩
      refine q_aload_n eX11_clashes_21 rfl ?_
      refine q_lload_n eX11_clashes_22 rfl ?_
      refine q_V1 (ci := 11) (n := 0) eX11_clashes_23 DX11_clash lX11_467 rfl (by decide) rfl rfl rfl rfl (h.1 hA3) ?_
      rintro _ _ ⟨s4, v4, rfl, hA4, b4, rfl, h⟩
      have h := h b4
      refine q_iz_eq (tgt := 33) (a := v4) eX11_clashes_26 (by decide) (ofz (r01 b4)) (fun c26 => ?_) (fun c26 => ?_)
      · have h := h.1 c26
        refine q_ic (v := Int32.ofInt 0) eX11_clashes_33 rfl ?_
        exact q_iret eX11_clashes_34 rfl ⟨_, _, rfl, hA4, (r32l rfl), rfl, h⟩
      · have h := h.2 c26
        refine q_ic (v := Int32.ofInt 1) eX11_clashes_29 rfl ?_
        refine q_goto (tgt := 34) eX11_clashes_30 (by decide) ?_
        exact q_iret eX11_clashes_34 rfl ⟨_, _, rfl, hA4, (r32l rfl), rfl, h⟩
    · have h := h.2 c12
      refine q_ic (v := Int32.ofInt (-1)) eX11_clashes_15 rfl ?_
      exact q_iret eX11_clashes_16 rfl ⟨_, _, rfl, hA, (r32l rfl), rfl, h⟩
theorem eX11_standsAs_0 : decode cX11_standsAs 0 = .ok (.aload_n 0, 1) := by decide +kernel
theorem eX11_standsAs_1 : decode cX11_standsAs 1 = .ok (.aload_n 0, 1) := by decide +kernel
theorem eX11_standsAs_2 : decode cX11_standsAs 2 = .ok (.getfield 42, 3) := by decide +kernel
theorem eX11_standsAs_5 : decode cX11_standsAs 5 = .ok (.bipush 40, 2) := by decide +kernel
theorem eX11_standsAs_7 : decode cX11_standsAs 7 = .ok (.aload_n 0, 1) := by decide +kernel
theorem eX11_standsAs_8 : decode cX11_standsAs 8 = .ok (.getfield 321, 3) := by decide +kernel
theorem eX11_standsAs_11 : decode cX11_standsAs 11 = .ok (.imul, 1) := by decide +kernel
theorem eX11_standsAs_12 : decode cX11_standsAs 12 = .ok (.iload_n 1, 1) := by decide +kernel
theorem eX11_standsAs_13 : decode cX11_standsAs 13 = .ok (.iadd, 1) := by decide +kernel
theorem eX11_standsAs_14 : decode cX11_standsAs 14 = .ok (.iaload, 1) := by decide +kernel
theorem eX11_standsAs_15 : decode cX11_standsAs 15 = .ok (.iload_n 1, 1) := by decide +kernel
theorem eX11_standsAs_16 : decode cX11_standsAs 16 = .ok (.invokevirtual 415, 3) := by decide +kernel
theorem eX11_standsAs_19 : decode cX11_standsAs 19 = .ok (.ireturn, 1) := by decide +kernel
def C_X11_standsAs (s : ST) (p : Int) (Q : ST → Int → Prop) : Prop := bx <| RA s → R32 p → q_met mX11_standsAs (qs layM s) [.ref 139, .int (Int32.ofInt p)] (PI layM Q)
theorem C_X11_standsAs.mono {s : ST} {p : Int} {Q Q' : ST → Int → Prop} (h : C_X11_standsAs s p Q) (hq : ∀ s v, Q s v → Q' s v) : C_X11_standsAs s p Q' := ⟨fun hA hrp => q_met.mono (h.1 hA hrp) (fun _ _ => PI.mono hq), trivial⟩
set_option maxRecDepth 20000 in
theorem s_X11_standsAs {s : ST} {p : Int} {Q : ST → Int → Prop} (h : RA s → R32 p → (R32 (40 * s.1 139 28) ∧ (R32 ((40 * s.1 139 28) + p) ∧ (((0 : Int) ≤ ((40 * s.1 139 28) + p) ∧ ((40 * s.1 139 28) + p) < 240) ∧ (P_X11_kindOf s (s.1 149 ((40 * s.1 139 28) + p)) p ∧ Q s ((s.1 172 (s.1 149 ((40 * s.1 139 28) + p)) + p) - s.1 170 (s.1 149 ((40 * s.1 139 28) + p)))))))) : C_X11_standsAs s p Q := by
  refine ⟨?_, trivial⟩
  intro hA hrp
  have h := h hA hrp
  refine q_enter (by decide) (Nat.le_of_ble_eq_true rfl) ?_
  refine q_aload_n eX11_standsAs_0 rfl ?_
  refine q_aload_n eX11_standsAs_1 rfl ?_
  refine q_getR (c := 11) (n := 0) (k := 18) (a := 149) eX11_standsAs_2 rfl (by decide) (by decide) fX11_42 rfl rfl ?_
  refine q_bi (v := Int32.ofInt 40) eX11_standsAs_5 rfl ?_
  refine q_aload_n eX11_standsAs_7 rfl ?_
  refine q_getf (c := 11) (n := 0) (k := 28) (v := .int (Int32.ofInt (s.1 139 28))) eX11_standsAs_8 rfl (by decide) (by decide) fX11_321 rfl ?_
  refine z_imul eX11_standsAs_11 ?_
  have r1 := h.1
  have h := h.2
  refine q_iload_n eX11_standsAs_12 rfl ?_
  refine z_iadd eX11_standsAs_13 ?_
  have r2 := h.1
  have h := h.2
  have f3 := h.1
  have h := h.2
  refine z_iald (n := 240) eX11_standsAs_14 rfl (ofz r2) f3 ?_
  refine q_topI (v := Int32.ofInt (s.1 149 ((40 * s.1 139 28) + p))) rfl ?_
  refine q_iload_n eX11_standsAs_15 rfl ?_
  have f5 := h.1
  have h := h.2
  refine q_V2 (ci := 11) (n := 0) eX11_standsAs_16 DX11_kindOf lX11_415 rfl (by decide) rfl rfl rfl rfl (p_X11_kindOf f5 hA (hA _ _) hrp) ?_
  rintro _ _ ⟨r4, rfl, rfl⟩
  exact q_iret eX11_standsAs_19 rfl ⟨_, _, rfl, hA, r4, rfl, h⟩
def F_X11_standsAs (s : ST) (p : Int) : Int := ((s.1 172 (s.1 149 ((40 * s.1 139 28) + p)) + p) - s.1 170 (s.1 149 ((40 * s.1 139 28) + p)))
abbrev P_X11_standsAs (s : ST) (p : Int) : Prop := (R32 (40 * s.1 139 28) ∧ R32 ((40 * s.1 139 28) + p) ∧ ((0 : Int) ≤ ((40 * s.1 139 28) + p) ∧ ((40 * s.1 139 28) + p) < 240) ∧ P_X11_kindOf s (s.1 149 ((40 * s.1 139 28) + p)) p)
theorem w_X11_standsAs {s : ST} {p : Int} (h : P_X11_standsAs s p) : C_X11_standsAs s p (fun s' v => s' = s ∧ v = F_X11_standsAs s p) := by
  refine s_X11_standsAs (fun hA hrp => ?_)
  unfold P_X11_standsAs at h
  refine ⟨h.1, ?_⟩
  have h := h.2
  refine ⟨h.1, ?_⟩
  have h := h.2
  refine ⟨h.1, ?_⟩
  have h := h.2
  refine ⟨h, ?_⟩
  exact ⟨rfl, rfl⟩
theorem p_X11_standsAs {s : ST} {p : Int} (h : P_X11_standsAs s p) : RA s → R32 p → q_met mX11_standsAs (qs layM s) [.ref 139, .int (Int32.ofInt p)] (fun σ r => R32 (F_X11_standsAs s p) ∧ σ = qs layM s ∧ r = some (.int (Int32.ofInt (F_X11_standsAs s p)))) := fun hA hrp => q_met.mono ((w_X11_standsAs h).1 hA hrp) (by
  rintro _ _ ⟨s1, v1, rfl, h1, h2, rfl, rfl, rfl⟩
  exact ⟨h2, rfl, rfl⟩)
theorem eX11_kind_0 : decode cX11_kind 0 = .ok (.aload_n 0, 1) := by decide +kernel
theorem eX11_kind_1 : decode cX11_kind 1 = .ok (.invokevirtual 460, 3) := by decide +kernel
theorem eX11_kind_4 : decode cX11_kind 4 = .ok (.aload_n 0, 1) := by decide +kernel
theorem eX11_kind_5 : decode cX11_kind 5 = .ok (.iload_n 1, 1) := by decide +kernel
theorem eX11_kind_6 : decode cX11_kind 6 = .ok (.invokevirtual 383, 3) := by decide +kernel
theorem eX11_kind_9 : decode cX11_kind 9 = .ok (.ifCond .eq 25, 3) := by decide +kernel
theorem eX11_kind_12 : decode cX11_kind 12 = .ok (.iload_n 2, 1) := by decide +kernel
theorem eX11_kind_13 : decode cX11_kind 13 = .ok (.iconst 0, 1) := by decide +kernel
theorem eX11_kind_14 : decode cX11_kind 14 = .ok (.sipush 499, 3) := by decide +kernel
theorem eX11_kind_17 : decode cX11_kind 17 = .ok (.invokestatic 379, 3) := by decide +kernel
theorem eX11_kind_20 : decode cX11_kind 20 = .ok (.ifCond .eq 14, 3) := by decide +kernel
theorem eX11_kind_23 : decode cX11_kind 23 = .ok (.aload_n 0, 1) := by decide +kernel
theorem eX11_kind_24 : decode cX11_kind 24 = .ok (.aload_n 0, 1) := by decide +kernel
theorem eX11_kind_25 : decode cX11_kind 25 = .ok (.invokevirtual 463, 3) := by decide +kernel
theorem eX11_kind_28 : decode cX11_kind 28 = .ok (.invokevirtual 467, 3) := by decide +kernel
theorem eX11_kind_31 : decode cX11_kind 31 = .ok (.ifCond .eq 5, 3) := by decide +kernel
theorem eX11_kind_34 : decode cX11_kind 34 = .ok (.iconst (-1), 1) := by decide +kernel
theorem eX11_kind_35 : decode cX11_kind 35 = .ok (.ireturn, 1) := by decide +kernel
theorem eX11_kind_36 : decode cX11_kind 36 = .ok (.iconst 1, 1) := by decide +kernel
theorem eX11_kind_37 : decode cX11_kind 37 = .ok (.istore_n 3, 1) := by decide +kernel
theorem eX11_kind_38 : decode cX11_kind 38 = .ok (.iconst 0, 1) := by decide +kernel
theorem eX11_kind_39 : decode cX11_kind 39 = .ok (.istore 4, 2) := by decide +kernel
theorem eX11_kind_41 : decode cX11_kind 41 = .ok (.aload_n 0, 1) := by decide +kernel
theorem eX11_kind_42 : decode cX11_kind 42 = .ok (.getfield 94, 3) := by decide +kernel
theorem eX11_kind_45 : decode cX11_kind 45 = .ok (.iconst 0, 1) := by decide +kernel
theorem eX11_kind_46 : decode cX11_kind 46 = .ok (.aload_n 0, 1) := by decide +kernel
theorem eX11_kind_47 : decode cX11_kind 47 = .ok (.iload_n 1, 1) := by decide +kernel
theorem eX11_kind_48 : decode cX11_kind 48 = .ok (.invokevirtual 470, 3) := by decide +kernel
theorem eX11_kind_51 : decode cX11_kind 51 = .ok (.iastore, 1) := by decide +kernel
theorem eX11_kind_52 : decode cX11_kind 52 = .ok (.iconst 0, 1) := by decide +kernel
theorem eX11_kind_53 : decode cX11_kind 53 = .ok (.istore 5, 2) := by decide +kernel
theorem eX11_kind_55 : decode cX11_kind 55 = .ok (.iload_n 3, 1) := by decide +kernel
theorem eX11_kind_56 : decode cX11_kind 56 = .ok (.ifCond .le 192, 3) := by decide +kernel
theorem eX11_kind_59 : decode cX11_kind 59 = .ok (.iinc 3 (-1), 3) := by decide +kernel
theorem eX11_kind_62 : decode cX11_kind 62 = .ok (.aload_n 0, 1) := by decide +kernel
theorem eX11_kind_63 : decode cX11_kind 63 = .ok (.aload_n 0, 1) := by decide +kernel
theorem eX11_kind_64 : decode cX11_kind 64 = .ok (.getfield 94, 3) := by decide +kernel
theorem eX11_kind_67 : decode cX11_kind 67 = .ok (.iload_n 3, 1) := by decide +kernel
theorem eX11_kind_68 : decode cX11_kind 68 = .ok (.iaload, 1) := by decide +kernel
theorem eX11_kind_69 : decode cX11_kind 69 = .ok (.invokevirtual 438, 3) := by decide +kernel
theorem eX11_kind_72 : decode cX11_kind 72 = .ok (.istore 6, 2) := by decide +kernel
theorem eX11_kind_74 : decode cX11_kind 74 = .ok (.aload_n 0, 1) := by decide +kernel
theorem eX11_kind_75 : decode cX11_kind 75 = .ok (.getfield 79, 3) := by decide +kernel
theorem eX11_kind_78 : decode cX11_kind 78 = .ok (.iload 6, 2) := by decide +kernel
theorem eX11_kind_80 : decode cX11_kind 80 = .ok (.iaload, 1) := by decide +kernel
theorem eX11_kind_81 : decode cX11_kind 81 = .ok (.iconst 2, 1) := by decide +kernel
theorem eX11_kind_82 : decode cX11_kind 82 = .ok (.if_icmp .ge 13, 3) := by decide +kernel
theorem eX11_kind_85 : decode cX11_kind 85 = .ok (.aload_n 0, 1) := by decide +kernel
theorem eX11_kind_86 : decode cX11_kind 86 = .ok (.getfield 79, 3) := by decide +kernel
theorem eX11_kind_89 : decode cX11_kind 89 = .ok (.iload 6, 2) := by decide +kernel
theorem eX11_kind_91 : decode cX11_kind 91 = .ok (.iaload, 1) := by decide +kernel
theorem eX11_kind_92 : decode cX11_kind 92 = .ok (.goto 12, 3) := by decide +kernel
theorem eX11_kind_95 : decode cX11_kind 95 = .ok (.aload_n 0, 1) := by decide +kernel
theorem eX11_kind_96 : decode cX11_kind 96 = .ok (.getfield 79, 3) := by decide +kernel
theorem eX11_kind_99 : decode cX11_kind 99 = .ok (.iload 6, 2) := by decide +kernel
theorem eX11_kind_101 : decode cX11_kind 101 = .ok (.iaload, 1) := by decide +kernel
theorem eX11_kind_102 : decode cX11_kind 102 = .ok (.iconst 1, 1) := by decide +kernel
theorem eX11_kind_103 : decode cX11_kind 103 = .ok (.isub, 1) := by decide +kernel
theorem eX11_kind_104 : decode cX11_kind 104 = .ok (.istore 7, 2) := by decide +kernel
theorem eX11_kind_106 : decode cX11_kind 106 = .ok (.aload_n 0, 1) := by decide +kernel
theorem eX11_kind_107 : decode cX11_kind 107 = .ok (.getfield 79, 3) := by decide +kernel
theorem eX11_kind_110 : decode cX11_kind 110 = .ok (.iload 6, 2) := by decide +kernel
theorem eX11_kind_112 : decode cX11_kind 112 = .ok (.iaload, 1) := by decide +kernel
theorem eX11_kind_113 : decode cX11_kind 113 = .ok (.iconst 2, 1) := by decide +kernel
theorem eX11_kind_114 : decode cX11_kind 114 = .ok (.if_icmp .ne 65, 3) := by decide +kernel
theorem eX11_kind_117 : decode cX11_kind 117 = .ok (.iconst 0, 1) := by decide +kernel
theorem eX11_kind_118 : decode cX11_kind 118 = .ok (.istore 8, 2) := by decide +kernel
theorem eX11_kind_120 : decode cX11_kind 120 = .ok (.iload 8, 2) := by decide +kernel
theorem eX11_kind_122 : decode cX11_kind 122 = .ok (.iload 4, 2) := by decide +kernel
theorem eX11_kind_124 : decode cX11_kind 124 = .ok (.if_icmp .ge 21, 3) := by decide +kernel
theorem eX11_kind_127 : decode cX11_kind 127 = .ok (.aload_n 0, 1) := by decide +kernel
theorem eX11_kind_128 : decode cX11_kind 128 = .ok (.getfield 121, 3) := by decide +kernel
theorem eX11_kind_131 : decode cX11_kind 131 = .ok (.iload 8, 2) := by decide +kernel
theorem eX11_kind_133 : decode cX11_kind 133 = .ok (.iaload, 1) := by decide +kernel
theorem eX11_kind_134 : decode cX11_kind 134 = .ok (.iload 6, 2) := by decide +kernel
theorem eX11_kind_136 : decode cX11_kind 136 = .ok (.if_icmp .eq 9, 3) := by decide +kernel
theorem eX11_kind_139 : decode cX11_kind 139 = .ok (.iinc 8 1, 3) := by decide +kernel
theorem eX11_kind_142 : decode cX11_kind 142 = .ok (.goto (-22), 3) := by decide +kernel
theorem eX11_kind_145 : decode cX11_kind 145 = .ok (.aload_n 0, 1) := by decide +kernel
theorem eX11_kind_146 : decode cX11_kind 146 = .ok (.getfield 121, 3) := by decide +kernel
theorem eX11_kind_149 : decode cX11_kind 149 = .ok (.iload 8, 2) := by decide +kernel
theorem eX11_kind_151 : decode cX11_kind 151 = .ok (.iload 6, 2) := by decide +kernel
theorem eX11_kind_153 : decode cX11_kind 153 = .ok (.iastore, 1) := by decide +kernel
theorem eX11_kind_154 : decode cX11_kind 154 = .ok (.iload 8, 2) := by decide +kernel
theorem eX11_kind_156 : decode cX11_kind 156 = .ok (.iload 4, 2) := by decide +kernel
theorem eX11_kind_158 : decode cX11_kind 158 = .ok (.if_icmp .ne 10, 3) := by decide +kernel
theorem eX11_kind_161 : decode cX11_kind 161 = .ok (.iload 4, 2) := by decide +kernel
theorem eX11_kind_163 : decode cX11_kind 163 = .ok (.iconst 1, 1) := by decide +kernel
theorem eX11_kind_164 : decode cX11_kind 164 = .ok (.iadd, 1) := by decide +kernel
theorem eX11_kind_165 : decode cX11_kind 165 = .ok (.goto 5, 3) := by decide +kernel
theorem eX11_kind_168 : decode cX11_kind 168 = .ok (.iload 4, 2) := by decide +kernel
theorem eX11_kind_170 : decode cX11_kind 170 = .ok (.istore 4, 2) := by decide +kernel
theorem eX11_kind_172 : decode cX11_kind 172 = .ok (.bipush 10, 2) := by decide +kernel
theorem eX11_kind_174 : decode cX11_kind 174 = .ok (.iload 8, 2) := by decide +kernel
theorem eX11_kind_176 : decode cX11_kind 176 = .ok (.iadd, 1) := by decide +kernel
theorem eX11_kind_177 : decode cX11_kind 177 = .ok (.istore 7, 2) := by decide +kernel
theorem eX11_kind_179 : decode cX11_kind 179 = .ok (.iload 5, 2) := by decide +kernel
theorem eX11_kind_181 : decode cX11_kind 181 = .ok (.iload_n 2, 1) := by decide +kernel
theorem eX11_kind_182 : decode cX11_kind 182 = .ok (.if_icmp .ne 6, 3) := by decide +kernel
theorem eX11_kind_185 : decode cX11_kind 185 = .ok (.iload 7, 2) := by decide +kernel
theorem eX11_kind_187 : decode cX11_kind 187 = .ok (.ireturn, 1) := by decide +kernel
theorem eX11_kind_188 : decode cX11_kind 188 = .ok (.aload_n 0, 1) := by decide +kernel
theorem eX11_kind_189 : decode cX11_kind 189 = .ok (.getfield 79, 3) := by decide +kernel
theorem eX11_kind_192 : decode cX11_kind 192 = .ok (.iload 6, 2) := by decide +kernel
theorem eX11_kind_194 : decode cX11_kind 194 = .ok (.iaload, 1) := by decide +kernel
theorem eX11_kind_195 : decode cX11_kind 195 = .ok (.iconst 3, 1) := by decide +kernel
theorem eX11_kind_196 : decode cX11_kind 196 = .ok (.if_icmp .le 19, 3) := by decide +kernel
theorem eX11_kind_199 : decode cX11_kind 199 = .ok (.aload_n 0, 1) := by decide +kernel
theorem eX11_kind_200 : decode cX11_kind 200 = .ok (.getfield 94, 3) := by decide +kernel
theorem eX11_kind_203 : decode cX11_kind 203 = .ok (.iload_n 3, 1) := by decide +kernel
theorem eX11_kind_204 : decode cX11_kind 204 = .ok (.aload_n 0, 1) := by decide +kernel
theorem eX11_kind_205 : decode cX11_kind 205 = .ok (.getfield 85, 3) := by decide +kernel
theorem eX11_kind_208 : decode cX11_kind 208 = .ok (.iload 6, 2) := by decide +kernel
theorem eX11_kind_210 : decode cX11_kind 210 = .ok (.iaload, 1) := by decide +kernel
theorem eX11_kind_211 : decode cX11_kind 211 = .ok (.iastore, 1) := by decide +kernel
theorem eX11_kind_212 : decode cX11_kind 212 = .ok (.iinc 3 1, 3) := by decide +kernel
theorem eX11_kind_215 : decode cX11_kind 215 = .ok (.aload_n 0, 1) := by decide +kernel
theorem eX11_kind_216 : decode cX11_kind 216 = .ok (.getfield 79, 3) := by decide +kernel
theorem eX11_kind_219 : decode cX11_kind 219 = .ok (.iload 6, 2) := by decide +kernel
theorem eX11_kind_221 : decode cX11_kind 221 = .ok (.iaload, 1) := by decide +kernel
theorem eX11_kind_222 : decode cX11_kind 222 = .ok (.iconst 2, 1) := by decide +kernel
theorem eX11_kind_223 : decode cX11_kind 223 = .ok (.if_icmp .le 19, 3) := by decide +kernel
theorem eX11_kind_226 : decode cX11_kind 226 = .ok (.aload_n 0, 1) := by decide +kernel
theorem eX11_kind_227 : decode cX11_kind 227 = .ok (.getfield 94, 3) := by decide +kernel
theorem eX11_kind_230 : decode cX11_kind 230 = .ok (.iload_n 3, 1) := by decide +kernel
theorem eX11_kind_231 : decode cX11_kind 231 = .ok (.aload_n 0, 1) := by decide +kernel
theorem eX11_kind_232 : decode cX11_kind 232 = .ok (.getfield 82, 3) := by decide +kernel
theorem eX11_kind_235 : decode cX11_kind 235 = .ok (.iload 6, 2) := by decide +kernel
theorem eX11_kind_237 : decode cX11_kind 237 = .ok (.iaload, 1) := by decide +kernel
theorem eX11_kind_238 : decode cX11_kind 238 = .ok (.iastore, 1) := by decide +kernel
theorem eX11_kind_239 : decode cX11_kind 239 = .ok (.iinc 3 1, 3) := by decide +kernel
theorem eX11_kind_242 : decode cX11_kind 242 = .ok (.iinc 5 1, 3) := by decide +kernel
theorem eX11_kind_245 : decode cX11_kind 245 = .ok (.goto (-190), 3) := by decide +kernel
theorem eX11_kind_248 : decode cX11_kind 248 = .ok (.iconst (-1), 1) := by decide +kernel
theorem eX11_kind_249 : decode cX11_kind 249 = .ok (.ireturn, 1) := by decide +kernel
def C_X11_kind (s : ST) (p : Int) (q : Int) (Q : ST → Int → Prop) : Prop := bx <| RA s → R32 p → R32 q → q_met mX11_kind (qs layM s) [.ref 139, .int (Int32.ofInt p), .int (Int32.ofInt q)] (PI layM Q)
theorem C_X11_kind.mono {s : ST} {p : Int} {q : Int} {Q Q' : ST → Int → Prop} (h : C_X11_kind s p q Q) (hq : ∀ s v, Q s v → Q' s v) : C_X11_kind s p q Q' := ⟨fun hA hrp hrq => q_met.mono (h.1 hA hrp hrq) (fun _ _ => PI.mono hq), trivial⟩
def K_X11_kind_215 (s : ST) (a2 : Int) (a3 : Int) (a4 : Int) (a5 : Int) (a6 : Int) (Q : ST → Int → Prop) : Prop := bx <| RA s → R32 a2 → R32 a3 → R32 a4 → R32 a5 → R32 a6 → q_K mX11_kind (qs layM s) 0 0 215 [(0, .ref 139), (2, .int (Int32.ofInt a2)), (3, .int (Int32.ofInt a3)), (4, .int (Int32.ofInt a4)), (5, .int (Int32.ofInt a5)), (6, .int (Int32.ofInt a6))] [] (q_fin mX11_kind (PI layM Q))
def K_X11_kind_179 (s : ST) (a2 : Int) (a3 : Int) (a4 : Int) (a5 : Int) (a6 : Int) (a7 : Int) (Q : ST → Int → Prop) : Prop := bx <| RA s → R32 a2 → R32 a3 → R32 a4 → R32 a5 → R32 a6 → R32 a7 → q_K mX11_kind (qs layM s) 0 0 179 [(0, .ref 139), (2, .int (Int32.ofInt a2)), (3, .int (Int32.ofInt a3)), (4, .int (Int32.ofInt a4)), (5, .int (Int32.ofInt a5)), (6, .int (Int32.ofInt a6)), (7, .int (Int32.ofInt a7))] [] (q_fin mX11_kind (PI layM Q))
def K_X11_kind_170 (s : ST) (a2 : Int) (a3 : Int) (a5 : Int) (a6 : Int) (a8 : Int) (t0 : Int) (Q : ST → Int → Prop) : Prop := bx <| RA s → R32 a2 → R32 a3 → R32 a5 → R32 a6 → R32 a8 → R32 t0 → q_K mX11_kind (qs layM s) 0 0 170 [(0, .ref 139), (2, .int (Int32.ofInt a2)), (3, .int (Int32.ofInt a3)), (5, .int (Int32.ofInt a5)), (6, .int (Int32.ofInt a6)), (8, .int (Int32.ofInt a8))] [.int (Int32.ofInt t0)] (q_fin mX11_kind (PI layM Q))
def K_X11_kind_145 (s : ST) (a2 : Int) (a3 : Int) (a4 : Int) (a5 : Int) (a6 : Int) (a8 : Int) (Q : ST → Int → Prop) : Prop := bx <| RA s → R32 a2 → R32 a3 → R32 a4 → R32 a5 → R32 a6 → R32 a8 → q_K mX11_kind (qs layM s) 0 0 145 [(0, .ref 139), (2, .int (Int32.ofInt a2)), (3, .int (Int32.ofInt a3)), (4, .int (Int32.ofInt a4)), (5, .int (Int32.ofInt a5)), (6, .int (Int32.ofInt a6)), (8, .int (Int32.ofInt a8))] [] (q_fin mX11_kind (PI layM Q))
def K_X11_kind_120 (s : ST) (a2 : Int) (a3 : Int) (a4 : Int) (a5 : Int) (a6 : Int) (a8 : Int) (Q : ST → Int → Prop) : Prop := bx <| RA s → R32 a2 → R32 a3 → R32 a4 → R32 a5 → R32 a6 → R32 a8 → q_K mX11_kind (qs layM s) 0 0 120 [(0, .ref 139), (2, .int (Int32.ofInt a2)), (3, .int (Int32.ofInt a3)), (4, .int (Int32.ofInt a4)), (5, .int (Int32.ofInt a5)), (6, .int (Int32.ofInt a6)), (8, .int (Int32.ofInt a8))] [] (q_fin mX11_kind (PI layM Q))
def K_X11_kind_104 (s : ST) (a2 : Int) (a3 : Int) (a4 : Int) (a5 : Int) (a6 : Int) (t0 : Int) (Q : ST → Int → Prop) : Prop := bx <| RA s → R32 a2 → R32 a3 → R32 a4 → R32 a5 → R32 a6 → R32 t0 → q_K mX11_kind (qs layM s) 0 0 104 [(0, .ref 139), (2, .int (Int32.ofInt a2)), (3, .int (Int32.ofInt a3)), (4, .int (Int32.ofInt a4)), (5, .int (Int32.ofInt a5)), (6, .int (Int32.ofInt a6))] [.int (Int32.ofInt t0)] (q_fin mX11_kind (PI layM Q))
def K_X11_kind_55 (s : ST) (a2 : Int) (a3 : Int) (a4 : Int) (a5 : Int) (Q : ST → Int → Prop) : Prop := bx <| RA s → R32 a2 → R32 a3 → R32 a4 → R32 a5 → q_K mX11_kind (qs layM s) 0 0 55 [(0, .ref 139), (2, .int (Int32.ofInt a2)), (3, .int (Int32.ofInt a3)), (4, .int (Int32.ofInt a4)), (5, .int (Int32.ofInt a5))] [] (q_fin mX11_kind (PI layM Q))
set_option maxRecDepth 20000 in
theorem s_X11_kind_215 {s : ST} {a2 : Int} {a3 : Int} {a4 : Int} {a5 : Int} {a6 : Int} {Q : ST → Int → Prop} (h : RA s → R32 a2 → R32 a3 → R32 a4 → R32 a5 → R32 a6 → (((0 : Int) ≤ a6 ∧ a6 < 12000) ∧ ((s.1 161 a6 ≤ 2 → (R32 (a5 + 1) ∧ K_X11_kind_55 s a2 a3 a4 (a5 + 1) Q)) ∧ (¬ s.1 161 a6 ≤ 2 → (((0 : Int) ≤ a3 ∧ a3 < 12000) ∧ (R32 (a3 + 1) ∧ (R32 (a5 + 1) ∧ K_X11_kind_55 (ui s 166 a3 (s.1 162 a6)) a2 (a3 + 1) a4 (a5 + 1) Q))))))) : K_X11_kind_215 s a2 a3 a4 a5 a6 Q := by
  refine ⟨?_, trivial⟩
  intro hA hra2 hra3 hra4 hra5 hra6
  have h := h hA hra2 hra3 hra4 hra5 hra6
  refine q_aload_n eX11_kind_215 rfl ?_
  refine q_getR (c := 11) (n := 0) (k := 33) (a := 161) eX11_kind_216 rfl (by decide) (by decide) fX11_79 rfl rfl ?_
  refine q_iload eX11_kind_219 rfl ?_
  have f1 := h.1
  have h := h.2
  refine z_iald (n := 12000) eX11_kind_221 rfl (ofz hra6) f1 ?_
  refine q_topI (v := Int32.ofInt (s.1 161 a6)) rfl ?_
  refine q_ic (v := Int32.ofInt 2) eX11_kind_222 rfl ?_
  refine q_cz_le (tgt := 242) (a := s.1 161 a6) (b := 2) eX11_kind_223 (by decide) (ofz (hA _ _)) (ofz (r32l rfl)) (fun c223 => ?_) (fun c223 => ?_)
  · have h := h.1 c223
    have r2 := h.1
    have h := h.2
    refine z_inc (m := 1) eX11_kind_242 rfl (Nat.le_of_ble_eq_true rfl) rfl ?_
    refine q_goto (tgt := 55) eX11_kind_245 (by decide) ?_
    exact q_subL rfl (h.1 hA hra2 hra3 hra4 r2)
  · have h := h.2 c223
    refine q_aload_n eX11_kind_226 rfl ?_
    refine q_getR (c := 11) (n := 0) (k := 38) (a := 166) eX11_kind_227 rfl (by decide) (by decide) fX11_94 rfl rfl ?_
    refine q_iload_n eX11_kind_230 rfl ?_
    refine q_aload_n eX11_kind_231 rfl ?_
    refine q_getR (c := 11) (n := 0) (k := 34) (a := 162) eX11_kind_232 rfl (by decide) (by decide) fX11_82 rfl rfl ?_
    refine q_iload eX11_kind_235 rfl ?_
    refine z_iald (n := 12000) eX11_kind_237 rfl (ofz hra6) f1 ?_
    refine q_topI (v := Int32.ofInt (s.1 162 a6)) rfl ?_
    have f3 := h.1
    have h := h.2
    refine z_iast (n := 12000) eX11_kind_238 rfl (ofz hra3) f3  ?_
    have r4 := h.1
    have h := h.2
    refine z_inc (m := 1) eX11_kind_239 rfl (Nat.le_of_ble_eq_true rfl) rfl ?_
    have r5 := h.1
    have h := h.2
    refine z_inc (m := 1) eX11_kind_242 rfl (Nat.le_of_ble_eq_true rfl) rfl ?_
    refine q_goto (tgt := 55) eX11_kind_245 (by decide) ?_
    exact q_subL rfl (h.1 (ra_ui hA (hA _ _)) hra2 r4 hra4 r5)
set_option maxRecDepth 20000 in
theorem s_X11_kind_179 {s : ST} {a2 : Int} {a3 : Int} {a4 : Int} {a5 : Int} {a6 : Int} {a7 : Int} {Q : ST → Int → Prop} (h : RA s → R32 a2 → R32 a3 → R32 a4 → R32 a5 → R32 a6 → R32 a7 → ((¬ a5 = a2 → (((0 : Int) ≤ a6 ∧ a6 < 12000) ∧ ((s.1 161 a6 ≤ 3 → K_X11_kind_215 s a2 a3 a4 a5 a6 Q) ∧ (¬ s.1 161 a6 ≤ 3 → (((0 : Int) ≤ a3 ∧ a3 < 12000) ∧ (R32 (a3 + 1) ∧ K_X11_kind_215 (ui s 166 a3 (s.1 163 a6)) a2 (a3 + 1) a4 a5 a6 Q)))))) ∧ (a5 = a2 → Q s a7))) : K_X11_kind_179 s a2 a3 a4 a5 a6 a7 Q := by
  refine ⟨?_, trivial⟩
  intro hA hra2 hra3 hra4 hra5 hra6 hra7
  have h := h hA hra2 hra3 hra4 hra5 hra6 hra7
  refine q_iload eX11_kind_179 rfl ?_
  refine q_iload_n eX11_kind_181 rfl ?_
  refine q_cz_ne (tgt := 188) (a := a5) (b := a2) eX11_kind_182 (by decide) (ofz hra5) (ofz hra2) (fun c182 => ?_) (fun c182 => ?_)
  · have h := h.1 c182
    refine q_aload_n eX11_kind_188 rfl ?_
    refine q_getR (c := 11) (n := 0) (k := 33) (a := 161) eX11_kind_189 rfl (by decide) (by decide) fX11_79 rfl rfl ?_
    refine q_iload eX11_kind_192 rfl ?_
    have f1 := h.1
    have h := h.2
    refine z_iald (n := 12000) eX11_kind_194 rfl (ofz hra6) f1 ?_
    refine q_topI (v := Int32.ofInt (s.1 161 a6)) rfl ?_
    refine q_ic (v := Int32.ofInt 3) eX11_kind_195 rfl ?_
    refine q_cz_le (tgt := 215) (a := s.1 161 a6) (b := 3) eX11_kind_196 (by decide) (ofz (hA _ _)) (ofz (r32l rfl)) (fun c196 => ?_) (fun c196 => ?_)
    · have h := h.1 c196
      exact q_subL rfl (h.1 hA hra2 hra3 hra4 hra5 hra6)
    · have h := h.2 c196
      refine q_aload_n eX11_kind_199 rfl ?_
      refine q_getR (c := 11) (n := 0) (k := 38) (a := 166) eX11_kind_200 rfl (by decide) (by decide) fX11_94 rfl rfl ?_
      refine q_iload_n eX11_kind_203 rfl ?_
      refine q_aload_n eX11_kind_204 rfl ?_
      refine q_getR (c := 11) (n := 0) (k := 35) (a := 163) eX11_kind_205 rfl (by decide) (by decide) fX11_85 rfl rfl ?_
      refine q_iload eX11_kind_208 rfl ?_
      refine z_iald (n := 12000) eX11_kind_210 rfl (ofz hra6) f1 ?_
      refine q_topI (v := Int32.ofInt (s.1 163 a6)) rfl ?_
      have f2 := h.1
      have h := h.2
      refine z_iast (n := 12000) eX11_kind_211 rfl (ofz hra3) f2  ?_
      have r3 := h.1
      have h := h.2
      refine z_inc (m := 1) eX11_kind_212 rfl (Nat.le_of_ble_eq_true rfl) rfl ?_
      exact q_subL rfl (h.1 (ra_ui hA (hA _ _)) hra2 r3 hra4 hra5 hra6)
  · have h := h.2 c182
    refine q_iload eX11_kind_185 rfl ?_
    exact q_iret eX11_kind_187 rfl ⟨_, _, rfl, hA, hra7, rfl, h⟩
set_option maxRecDepth 20000 in
theorem s_X11_kind_170 {s : ST} {a2 : Int} {a3 : Int} {a5 : Int} {a6 : Int} {a8 : Int} {t0 : Int} {Q : ST → Int → Prop} (h : RA s → R32 a2 → R32 a3 → R32 a5 → R32 a6 → R32 a8 → R32 t0 → (R32 (10 + a8) ∧ K_X11_kind_179 s a2 a3 t0 a5 a6 (10 + a8) Q)) : K_X11_kind_170 s a2 a3 a5 a6 a8 t0 Q := by
  refine ⟨?_, trivial⟩
  intro hA hra2 hra3 hra5 hra6 hra8 hrt0
  have h := h hA hra2 hra3 hra5 hra6 hra8 hrt0
  refine q_istore eX11_kind_170 (Nat.le_of_ble_eq_true rfl) ?_
  refine q_bi (v := Int32.ofInt 10) eX11_kind_172 rfl ?_
  refine q_iload eX11_kind_174 rfl ?_
  refine z_iadd eX11_kind_176 ?_
  have r1 := h.1
  have h := h.2
  refine q_istore eX11_kind_177 (Nat.le_of_ble_eq_true rfl) ?_
  exact q_subL rfl (h.1 hA hra2 hra3 hrt0 hra5 hra6 r1)
set_option maxRecDepth 20000 in
theorem s_X11_kind_145 {s : ST} {a2 : Int} {a3 : Int} {a4 : Int} {a5 : Int} {a6 : Int} {a8 : Int} {Q : ST → Int → Prop} (h : RA s → R32 a2 → R32 a3 → R32 a4 → R32 a5 → R32 a6 → R32 a8 → (((0 : Int) ≤ a8 ∧ a8 < 500) ∧ ((¬ a8 = a4 → K_X11_kind_170 (ui s 174 a8 a6) a2 a3 a5 a6 a8 a4 Q) ∧ (a8 = a4 → (R32 (a4 + 1) ∧ K_X11_kind_170 (ui s 174 a8 a6) a2 a3 a5 a6 a8 (a4 + 1) Q))))) : K_X11_kind_145 s a2 a3 a4 a5 a6 a8 Q := by
  refine ⟨?_, trivial⟩
  intro hA hra2 hra3 hra4 hra5 hra6 hra8
  have h := h hA hra2 hra3 hra4 hra5 hra6 hra8
  refine q_aload_n eX11_kind_145 rfl ?_
  refine q_getR (c := 11) (n := 0) (k := 52) (a := 174) eX11_kind_146 rfl (by decide) (by decide) fX11_121 rfl rfl ?_
  refine q_iload eX11_kind_149 rfl ?_
  refine q_iload eX11_kind_151 rfl ?_
  have f1 := h.1
  have h := h.2
  refine z_iast (n := 500) eX11_kind_153 rfl (ofz hra8) f1  ?_
  refine q_iload eX11_kind_154 rfl ?_
  refine q_iload eX11_kind_156 rfl ?_
  refine q_cz_ne (tgt := 168) (a := a8) (b := a4) eX11_kind_158 (by decide) (ofz hra8) (ofz hra4) (fun c158 => ?_) (fun c158 => ?_)
  · have h := h.1 c158
    refine q_iload eX11_kind_168 rfl ?_
    exact q_subL rfl (h.1 (ra_ui hA hra6) hra2 hra3 hra5 hra6 hra8 hra4)
  · have h := h.2 c158
    refine q_iload eX11_kind_161 rfl ?_
    refine q_ic (v := Int32.ofInt 1) eX11_kind_163 rfl ?_
    refine z_iadd eX11_kind_164 ?_
    have r2 := h.1
    have h := h.2
    refine q_goto (tgt := 170) eX11_kind_165 (by decide) ?_
    exact q_subL rfl (h.1 (ra_ui hA hra6) hra2 hra3 hra5 hra6 hra8 r2)
set_option maxRecDepth 20000 in
theorem s_X11_kind_120 {s : ST} {a2 : Int} {a3 : Int} {a4 : Int} {a5 : Int} {a6 : Int} {a8 : Int} {Q : ST → Int → Prop} (h : RA s → R32 a2 → R32 a3 → R32 a4 → R32 a5 → R32 a6 → R32 a8 → ((a4 ≤ a8 → K_X11_kind_145 s a2 a3 a4 a5 a6 a8 Q) ∧ (¬ a4 ≤ a8 → (((0 : Int) ≤ a8 ∧ a8 < 500) ∧ ((s.1 174 a8 = a6 → K_X11_kind_145 s a2 a3 a4 a5 a6 a8 Q) ∧ (¬ s.1 174 a8 = a6 → (R32 (a8 + 1) ∧ K_X11_kind_120 s a2 a3 a4 a5 a6 (a8 + 1) Q))))))) : K_X11_kind_120 s a2 a3 a4 a5 a6 a8 Q := by
  refine ⟨?_, trivial⟩
  intro hA hra2 hra3 hra4 hra5 hra6 hra8
  have h := h hA hra2 hra3 hra4 hra5 hra6 hra8
  refine q_iload eX11_kind_120 rfl ?_
  refine q_iload eX11_kind_122 rfl ?_
  refine q_cz_ge (tgt := 145) (a := a8) (b := a4) eX11_kind_124 (by decide) (ofz hra8) (ofz hra4) (fun c124 => ?_) (fun c124 => ?_)
  · have h := h.1 c124
    exact q_subL rfl (h.1 hA hra2 hra3 hra4 hra5 hra6 hra8)
  · have h := h.2 c124
    refine q_aload_n eX11_kind_127 rfl ?_
    refine q_getR (c := 11) (n := 0) (k := 52) (a := 174) eX11_kind_128 rfl (by decide) (by decide) fX11_121 rfl rfl ?_
    refine q_iload eX11_kind_131 rfl ?_
    have f1 := h.1
    have h := h.2
    refine z_iald (n := 500) eX11_kind_133 rfl (ofz hra8) f1 ?_
    refine q_topI (v := Int32.ofInt (s.1 174 a8)) rfl ?_
    refine q_iload eX11_kind_134 rfl ?_
    refine q_cz_eq (tgt := 145) (a := s.1 174 a8) (b := a6) eX11_kind_136 (by decide) (ofz (hA _ _)) (ofz hra6) (fun c136 => ?_) (fun c136 => ?_)
    · have h := h.1 c136
      exact q_subL rfl (h.1 hA hra2 hra3 hra4 hra5 hra6 hra8)
    · have h := h.2 c136
      have r2 := h.1
      have h := h.2
      refine z_inc (m := 1) eX11_kind_139 rfl (Nat.le_of_ble_eq_true rfl) rfl ?_
      refine q_goto (tgt := 120) eX11_kind_142 (by decide) ?_
      exact q_subL rfl (h.1 hA hra2 hra3 hra4 hra5 hra6 r2)
set_option maxRecDepth 20000 in
theorem s_X11_kind_104 {s : ST} {a2 : Int} {a3 : Int} {a4 : Int} {a5 : Int} {a6 : Int} {t0 : Int} {Q : ST → Int → Prop} (h : RA s → R32 a2 → R32 a3 → R32 a4 → R32 a5 → R32 a6 → R32 t0 → (((0 : Int) ≤ a6 ∧ a6 < 12000) ∧ ((¬ s.1 161 a6 = 2 → K_X11_kind_179 s a2 a3 a4 a5 a6 t0 Q) ∧ (s.1 161 a6 = 2 → K_X11_kind_120 s a2 a3 a4 a5 a6 0 Q)))) : K_X11_kind_104 s a2 a3 a4 a5 a6 t0 Q := by
  refine ⟨?_, trivial⟩
  intro hA hra2 hra3 hra4 hra5 hra6 hrt0
  have h := h hA hra2 hra3 hra4 hra5 hra6 hrt0
  refine q_istore eX11_kind_104 (Nat.le_of_ble_eq_true rfl) ?_
  refine q_aload_n eX11_kind_106 rfl ?_
  refine q_getR (c := 11) (n := 0) (k := 33) (a := 161) eX11_kind_107 rfl (by decide) (by decide) fX11_79 rfl rfl ?_
  refine q_iload eX11_kind_110 rfl ?_
  have f1 := h.1
  have h := h.2
  refine z_iald (n := 12000) eX11_kind_112 rfl (ofz hra6) f1 ?_
  refine q_topI (v := Int32.ofInt (s.1 161 a6)) rfl ?_
  refine q_ic (v := Int32.ofInt 2) eX11_kind_113 rfl ?_
  refine q_cz_ne (tgt := 179) (a := s.1 161 a6) (b := 2) eX11_kind_114 (by decide) (ofz (hA _ _)) (ofz (r32l rfl)) (fun c114 => ?_) (fun c114 => ?_)
  · have h := h.1 c114
    exact q_subL rfl (h.1 hA hra2 hra3 hra4 hra5 hra6 hrt0)
  · have h := h.2 c114
    refine q_ic (v := Int32.ofInt 0) eX11_kind_117 rfl ?_
    refine q_istore eX11_kind_118 (Nat.le_of_ble_eq_true rfl) ?_
    exact q_subL rfl (h.1 hA hra2 hra3 hra4 hra5 hra6 (r32l rfl))
set_option maxRecDepth 20000 in
theorem s_X11_kind_55 {s : ST} {a2 : Int} {a3 : Int} {a4 : Int} {a5 : Int} {Q : ST → Int → Prop} (h : RA s → R32 a2 → R32 a3 → R32 a4 → R32 a5 → ((a3 ≤ 0 → Q s (-1)) ∧ (¬ a3 ≤ 0 → (R32 (a3 - 1) ∧ (((0 : Int) ≤ (a3 - 1) ∧ (a3 - 1) < 12000) ∧ (C_X11_find s (s.1 166 (a3 - 1)) (fun s3 v3 => (((0 : Int) ≤ v3 ∧ v3 < 12000) ∧ ((2 ≤ s3.1 161 v3 → (R32 (s3.1 161 v3 - 1) ∧ K_X11_kind_104 s3 a2 (a3 - 1) a4 a5 v3 (s3.1 161 v3 - 1) Q)) ∧ (¬ 2 ≤ s3.1 161 v3 → K_X11_kind_104 s3 a2 (a3 - 1) a4 a5 v3 (s3.1 161 v3) Q)))))))))) : K_X11_kind_55 s a2 a3 a4 a5 Q := by
  refine ⟨?_, trivial⟩
  intro hA hra2 hra3 hra4 hra5
  have h := h hA hra2 hra3 hra4 hra5
  refine q_iload_n eX11_kind_55 rfl ?_
  refine q_iz_le (tgt := 248) (a := a3) eX11_kind_56 (by decide) (ofz hra3) (fun c56 => ?_) (fun c56 => ?_)
  · have h := h.1 c56
    refine q_ic (v := Int32.ofInt (-1)) eX11_kind_248 rfl ?_
    exact q_iret eX11_kind_249 rfl ⟨_, _, rfl, hA, (r32l rfl), rfl, h⟩
  · have h := h.2 c56
    have r1 := h.1
    have h := h.2
    refine z_incN (m := 1) eX11_kind_59 rfl (Nat.le_of_ble_eq_true rfl) rfl ?_
    refine q_aload_n eX11_kind_62 rfl ?_
    refine q_aload_n eX11_kind_63 rfl ?_
    refine q_getR (c := 11) (n := 0) (k := 38) (a := 166) eX11_kind_64 rfl (by decide) (by decide) fX11_94 rfl rfl ?_
    refine q_iload_n eX11_kind_67 rfl ?_
    have f2 := h.1
    have h := h.2
    refine z_iald (n := 12000) eX11_kind_68 rfl (ofz r1) f2 ?_
    refine q_topI (v := Int32.ofInt (s.1 166 (a3 - 1))) rfl ?_
    refine q_V1 (ci := 11) (n := 0) eX11_kind_69 DX11_find lX11_438 rfl (by decide) rfl rfl rfl rfl (h.1 hA (hA _ _)) ?_
    rintro _ _ ⟨s3, v3, rfl, hA3, r3, rfl, h⟩
    refine q_istore eX11_kind_72 (Nat.le_of_ble_eq_true rfl) ?_
    refine q_aload_n eX11_kind_74 rfl ?_
    refine q_getR (c := 11) (n := 0) (k := 33) (a := 161) eX11_kind_75 rfl (by decide) (by decide) fX11_79 rfl rfl ?_
    refine q_iload eX11_kind_78 rfl ?_
    have f4 := h.1
    have h := h.2
    refine z_iald (n := 12000) eX11_kind_80 rfl (ofz r3) f4 ?_
    refine q_topI (v := Int32.ofInt (s3.1 161 v3)) rfl ?_
    refine q_ic (v := Int32.ofInt 2) eX11_kind_81 rfl ?_
    refine q_cz_ge (tgt := 95) (a := s3.1 161 v3) (b := 2) eX11_kind_82 (by decide) (ofz (hA3 _ _)) (ofz (r32l rfl)) (fun c82 => ?_) (fun c82 => ?_)
    · have h := h.1 c82
      refine q_aload_n eX11_kind_95 rfl ?_
      refine q_getR (c := 11) (n := 0) (k := 33) (a := 161) eX11_kind_96 rfl (by decide) (by decide) fX11_79 rfl rfl ?_
      refine q_iload eX11_kind_99 rfl ?_
      refine z_iald (n := 12000) eX11_kind_101 rfl (ofz r3) f4 ?_
      refine q_topI (v := Int32.ofInt (s3.1 161 v3)) rfl ?_
      refine q_ic (v := Int32.ofInt 1) eX11_kind_102 rfl ?_
      refine z_isub eX11_kind_103 ?_
      have r5 := h.1
      have h := h.2
      exact q_subL rfl (h.1 hA3 hra2 r1 hra4 hra5 r3 r5)
    · have h := h.2 c82
      refine q_aload_n eX11_kind_85 rfl ?_
      refine q_getR (c := 11) (n := 0) (k := 33) (a := 161) eX11_kind_86 rfl (by decide) (by decide) fX11_79 rfl rfl ?_
      refine q_iload eX11_kind_89 rfl ?_
      refine z_iald (n := 12000) eX11_kind_91 rfl (ofz r3) f4 ?_
      refine q_topI (v := Int32.ofInt (s3.1 161 v3)) rfl ?_
      refine q_goto (tgt := 104) eX11_kind_92 (by decide) ?_
      exact q_subL rfl (h.1 hA3 hra2 r1 hra4 hra5 r3 (hA3 _ _))
set_option maxRecDepth 20000 in
theorem s_X11_kind {s : ST} {p : Int} {q : Int} {Q : ST → Int → Prop} (h : RA s → R32 p → R32 q → (C_X11_layNow s (fun s1 => (P_X11_isPlace s1 p ∧ ((¬ (¬ (F_X11_isIn s1 p 0 (s1.1 142 (s1.1 139 28) - 1)) = 0) → Q s1 (-1)) ∧ ((¬ (F_X11_isIn s1 p 0 (s1.1 142 (s1.1 139 28) - 1)) = 0) → ((¬ (¬ q < 0 ∧ ¬ 499 < q) → Q s1 (-1)) ∧ ((¬ q < 0 ∧ ¬ 499 < q) → (P_X11_allPlaces s1 ∧ (C_X11_clash s1 ((lshl 1 (s1.1 142 (s1.1 139 28))) - 1) (fun s7 v7 => (v7 = 0 ∨ v7 = 1) → ((v7 = 0 → (P_X11_standsAs s7 p ∧ (((0 : Int) ≤ (0 : Int) ∧ (0 : Int) < 12000) ∧ K_X11_kind_55 (ui s7 166 0 ((s7.1 172 (s7.1 149 ((40 * s7.1 139 28) + p)) + p) - s7.1 170 (s7.1 149 ((40 * s7.1 139 28) + p)))) q 1 0 0 Q))) ∧ (¬ v7 = 0 → Q s7 (-1)))))))))))))) : C_X11_kind s p q Q := by
  refine ⟨?_, trivial⟩
  intro hA hrp hrq
  have h := h hA hrp hrq
  refine q_enter (by decide) (Nat.le_of_ble_eq_true rfl) ?_
  refine q_aload_n eX11_kind_0 rfl ?_
  refine q_V0 (ci := 11) (n := 0) eX11_kind_1 DX11_layNow lX11_460 rfl (by decide) rfl rfl rfl rfl (h.1 hA) ?_
  rintro _ _ ⟨s1, rfl, hA1, rfl, h⟩
  refine q_aload_n eX11_kind_4 rfl ?_
  refine q_iload_n eX11_kind_5 rfl ?_
  have f3 := h.1
  have h := h.2
  refine q_V1 (ci := 11) (n := 0) eX11_kind_6 DX11_isPlace lX11_383 rfl (by decide) rfl rfl rfl rfl (p_X11_isPlace f3 hA1 hrp) ?_
  rintro _ _ ⟨b2, rfl, rfl⟩
  refine q_iz_eq (tgt := 34) (a := (F_X11_isPlace s1 p)) eX11_kind_9 (by decide) (ofz (r01 b2)) (fun c9 => ?_) (fun c9 => ?_)
  · have h := h.1 (fun q => n_X11_isPlace.mpr q c9)
    refine q_ic (v := Int32.ofInt (-1)) eX11_kind_34 rfl ?_
    exact q_iret eX11_kind_35 rfl ⟨_, _, rfl, hA1, (r32l rfl), rfl, h⟩
  · have h := h.2 (n_X11_isPlace.mp c9)
    refine q_iload_n eX11_kind_12 rfl ?_
    refine q_ic (v := Int32.ofInt 0) eX11_kind_13 rfl ?_
    refine q_si (v := Int32.ofInt 499) eX11_kind_14 rfl ?_
    refine q_S3 eX11_kind_17 DX11_isIn lX11_379 rfl rfl rfl (p_X11_isIn hA1 hrq (r32l rfl) (r32l rfl)) ?_
    rintro _ _ ⟨b4, rfl, rfl⟩
    refine q_iz_eq (tgt := 34) (a := (F_X11_isIn s1 q 0 499)) eX11_kind_20 (by decide) (ofz (r01 b4)) (fun c20 => ?_) (fun c20 => ?_)
    · have h := h.1 (fun q => n_X11_isIn.mpr q c20)
      refine q_ic (v := Int32.ofInt (-1)) eX11_kind_34 rfl ?_
      exact q_iret eX11_kind_35 rfl ⟨_, _, rfl, hA1, (r32l rfl), rfl, h⟩
    · have h := h.2 (n_X11_isIn.mp c20)
      refine q_aload_n eX11_kind_23 rfl ?_
      refine q_aload_n eX11_kind_24 rfl ?_
      have f6 := h.1
      have h := h.2
      refine q_V0 (ci := 11) (n := 0) eX11_kind_25 DX11_allPlaces lX11_463 rfl (by decide) rfl rfl rfl rfl (p_X11_allPlaces f6 hA1) ?_
      rintro _ _ ⟨rfl, rfl⟩
      refine q_V1 (ci := 11) (n := 0) eX11_kind_28 DX11_clash lX11_467 rfl (by decide) rfl rfl rfl rfl (h.1 hA1) ?_
      rintro _ _ ⟨s7, v7, rfl, hA7, b7, rfl, h⟩
      have h := h b7
      refine q_iz_eq (tgt := 36) (a := v7) eX11_kind_31 (by decide) (ofz (r01 b7)) (fun c31 => ?_) (fun c31 => ?_)
      · have h := h.1 c31
        refine q_ic (v := Int32.ofInt 1) eX11_kind_36 rfl ?_
        refine q_istore_n eX11_kind_37 (Nat.le_of_ble_eq_true rfl) ?_
        refine q_ic (v := Int32.ofInt 0) eX11_kind_38 rfl ?_
        refine q_istore eX11_kind_39 (Nat.le_of_ble_eq_true rfl) ?_
        refine q_aload_n eX11_kind_41 rfl ?_
        refine q_getR (c := 11) (n := 0) (k := 38) (a := 166) eX11_kind_42 rfl (by decide) (by decide) fX11_94 rfl rfl ?_
        refine q_ic (v := Int32.ofInt 0) eX11_kind_45 rfl ?_
        refine q_aload_n eX11_kind_46 rfl ?_
        refine q_iload_n eX11_kind_47 rfl ?_
        have f9 := h.1
        have h := h.2
        refine q_V1 (ci := 11) (n := 0) eX11_kind_48 DX11_standsAs lX11_470 rfl (by decide) rfl rfl rfl rfl (p_X11_standsAs f9 hA7 hrp) ?_
        rintro _ _ ⟨r8, rfl, rfl⟩
        have f10 := h.1
        have h := h.2
        refine z_iast (n := 12000) eX11_kind_51 rfl (ofz (r32l rfl)) f10  ?_
        refine q_ic (v := Int32.ofInt 0) eX11_kind_52 rfl ?_
        refine q_istore eX11_kind_53 (Nat.le_of_ble_eq_true rfl) ?_
        exact q_subL rfl (h.1 (ra_ui hA7 r8) hrq (r32l rfl) (r32l rfl) (r32l rfl))
      · have h := h.2 c31
        refine q_ic (v := Int32.ofInt (-1)) eX11_kind_34 rfl ?_
        exact q_iret eX11_kind_35 rfl ⟨_, _, rfl, hA7, (r32l rfl), rfl, h⟩
theorem eX11_meets_0 : decode cX11_meets 0 = .ok (.aload_n 0, 1) := by decide +kernel
theorem eX11_meets_1 : decode cX11_meets 1 = .ok (.invokevirtual 460, 3) := by decide +kernel
theorem eX11_meets_4 : decode cX11_meets 4 = .ok (.aload_n 0, 1) := by decide +kernel
theorem eX11_meets_5 : decode cX11_meets 5 = .ok (.iload_n 1, 1) := by decide +kernel
theorem eX11_meets_6 : decode cX11_meets 6 = .ok (.invokevirtual 383, 3) := by decide +kernel
theorem eX11_meets_9 : decode cX11_meets 9 = .ok (.ifCond .eq 22, 3) := by decide +kernel
theorem eX11_meets_12 : decode cX11_meets 12 = .ok (.aload_n 0, 1) := by decide +kernel
theorem eX11_meets_13 : decode cX11_meets 13 = .ok (.iload_n 2, 1) := by decide +kernel
theorem eX11_meets_14 : decode cX11_meets 14 = .ok (.invokevirtual 383, 3) := by decide +kernel
theorem eX11_meets_17 : decode cX11_meets 17 = .ok (.ifCond .eq 14, 3) := by decide +kernel
theorem eX11_meets_20 : decode cX11_meets 20 = .ok (.aload_n 0, 1) := by decide +kernel
theorem eX11_meets_21 : decode cX11_meets 21 = .ok (.aload_n 0, 1) := by decide +kernel
theorem eX11_meets_22 : decode cX11_meets 22 = .ok (.invokevirtual 463, 3) := by decide +kernel
theorem eX11_meets_25 : decode cX11_meets 25 = .ok (.invokevirtual 467, 3) := by decide +kernel
theorem eX11_meets_28 : decode cX11_meets 28 = .ok (.ifCond .eq 5, 3) := by decide +kernel
theorem eX11_meets_31 : decode cX11_meets 31 = .ok (.iconst (-1), 1) := by decide +kernel
theorem eX11_meets_32 : decode cX11_meets 32 = .ok (.ireturn, 1) := by decide +kernel
theorem eX11_meets_33 : decode cX11_meets 33 = .ok (.aload_n 0, 1) := by decide +kernel
theorem eX11_meets_34 : decode cX11_meets 34 = .ok (.aload_n 0, 1) := by decide +kernel
theorem eX11_meets_35 : decode cX11_meets 35 = .ok (.iload_n 1, 1) := by decide +kernel
theorem eX11_meets_36 : decode cX11_meets 36 = .ok (.invokevirtual 470, 3) := by decide +kernel
theorem eX11_meets_39 : decode cX11_meets 39 = .ok (.aload_n 0, 1) := by decide +kernel
theorem eX11_meets_40 : decode cX11_meets 40 = .ok (.iload_n 2, 1) := by decide +kernel
theorem eX11_meets_41 : decode cX11_meets 41 = .ok (.invokevirtual 470, 3) := by decide +kernel
theorem eX11_meets_44 : decode cX11_meets 44 = .ok (.invokevirtual 447, 3) := by decide +kernel
theorem eX11_meets_47 : decode cX11_meets 47 = .ok (.ifCond .eq 14, 3) := by decide +kernel
theorem eX11_meets_50 : decode cX11_meets 50 = .ok (.aload_n 0, 1) := by decide +kernel
theorem eX11_meets_51 : decode cX11_meets 51 = .ok (.invokevirtual 451, 3) := by decide +kernel
theorem eX11_meets_54 : decode cX11_meets 54 = .ok (.ifCond .eq 7, 3) := by decide +kernel
theorem eX11_meets_57 : decode cX11_meets 57 = .ok (.iconst 1, 1) := by decide +kernel
theorem eX11_meets_58 : decode cX11_meets 58 = .ok (.goto 4, 3) := by decide +kernel
theorem eX11_meets_61 : decode cX11_meets 61 = .ok (.iconst 0, 1) := by decide +kernel
theorem eX11_meets_62 : decode cX11_meets 62 = .ok (.ireturn, 1) := by decide +kernel
def C_X11_meets (s : ST) (p : Int) (q : Int) (Q : ST → Int → Prop) : Prop := bx <| RA s → R32 p → R32 q → q_met mX11_meets (qs layM s) [.ref 139, .int (Int32.ofInt p), .int (Int32.ofInt q)] (PI layM Q)
theorem C_X11_meets.mono {s : ST} {p : Int} {q : Int} {Q Q' : ST → Int → Prop} (h : C_X11_meets s p q Q) (hq : ∀ s v, Q s v → Q' s v) : C_X11_meets s p q Q' := ⟨fun hA hrp hrq => q_met.mono (h.1 hA hrp hrq) (fun _ _ => PI.mono hq), trivial⟩
set_option maxRecDepth 20000 in
theorem s_X11_meets {s : ST} {p : Int} {q : Int} {Q : ST → Int → Prop} (h : RA s → R32 p → R32 q → (C_X11_layNow s (fun s1 => (P_X11_isPlace s1 p ∧ ((¬ (¬ (F_X11_isIn s1 p 0 (s1.1 142 (s1.1 139 28) - 1)) = 0) → Q s1 (-1)) ∧ ((¬ (F_X11_isIn s1 p 0 (s1.1 142 (s1.1 139 28) - 1)) = 0) → (P_X11_isPlace s1 q ∧ ((¬ (¬ (F_X11_isIn s1 q 0 (s1.1 142 (s1.1 139 28) - 1)) = 0) → Q s1 (-1)) ∧ ((¬ (F_X11_isIn s1 q 0 (s1.1 142 (s1.1 139 28) - 1)) = 0) → (P_X11_allPlaces s1 ∧ (C_X11_clash s1 ((lshl 1 (s1.1 142 (s1.1 139 28))) - 1) (fun s8 v8 => (v8 = 0 ∨ v8 = 1) → ((v8 = 0 → (P_X11_standsAs s8 p ∧ (P_X11_standsAs s8 q ∧ (C_X11_unite s8 ((s8.1 172 (s8.1 149 ((40 * s8.1 139 28) + p)) + p) - s8.1 170 (s8.1 149 ((40 * s8.1 139 28) + p))) ((s8.1 172 (s8.1 149 ((40 * s8.1 139 28) + q)) + q) - s8.1 170 (s8.1 149 ((40 * s8.1 139 28) + q))) (fun s13 v13 => (v13 = 0 ∨ v13 = 1) → ((v13 = 0 → Q s13 0) ∧ (¬ v13 = 0 → (C_X11_isSound s13 (fun s14 v14 => (v14 = 0 ∨ v14 = 1) → ((v14 = 0 → Q s14 0) ∧ (¬ v14 = 0 → Q s14 1))))))))))) ∧ (¬ v8 = 0 → Q s8 (-1))))))))))))))) : C_X11_meets s p q Q := by
  refine ⟨?_, trivial⟩
  intro hA hrp hrq
  have h := h hA hrp hrq
  refine q_enter (by decide) (Nat.le_of_ble_eq_true rfl) ?_
  refine q_aload_n eX11_meets_0 rfl ?_
  refine q_V0 (ci := 11) (n := 0) eX11_meets_1 DX11_layNow lX11_460 rfl (by decide) rfl rfl rfl rfl (h.1 hA) ?_
  rintro _ _ ⟨s1, rfl, hA1, rfl, h⟩
  refine q_aload_n eX11_meets_4 rfl ?_
  refine q_iload_n eX11_meets_5 rfl ?_
  have f3 := h.1
  have h := h.2
  refine q_V1 (ci := 11) (n := 0) eX11_meets_6 DX11_isPlace lX11_383 rfl (by decide) rfl rfl rfl rfl (p_X11_isPlace f3 hA1 hrp) ?_
  rintro _ _ ⟨b2, rfl, rfl⟩
  refine q_iz_eq (tgt := 31) (a := (F_X11_isPlace s1 p)) eX11_meets_9 (by decide) (ofz (r01 b2)) (fun c9 => ?_) (fun c9 => ?_)
  · have h := h.1 (fun q => n_X11_isPlace.mpr q c9)
    refine q_ic (v := Int32.ofInt (-1)) eX11_meets_31 rfl ?_
    exact q_iret eX11_meets_32 rfl ⟨_, _, rfl, hA1, (r32l rfl), rfl, h⟩
  · have h := h.2 (n_X11_isPlace.mp c9)
    refine q_aload_n eX11_meets_12 rfl ?_
    refine q_iload_n eX11_meets_13 rfl ?_
    have f5 := h.1
    have h := h.2
    refine q_V1 (ci := 11) (n := 0) eX11_meets_14 DX11_isPlace lX11_383 rfl (by decide) rfl rfl rfl rfl (p_X11_isPlace f5 hA1 hrq) ?_
    rintro _ _ ⟨b4, rfl, rfl⟩
    refine q_iz_eq (tgt := 31) (a := (F_X11_isPlace s1 q)) eX11_meets_17 (by decide) (ofz (r01 b4)) (fun c17 => ?_) (fun c17 => ?_)
    · have h := h.1 (fun q => n_X11_isPlace.mpr q c17)
      refine q_ic (v := Int32.ofInt (-1)) eX11_meets_31 rfl ?_
      exact q_iret eX11_meets_32 rfl ⟨_, _, rfl, hA1, (r32l rfl), rfl, h⟩
    · have h := h.2 (n_X11_isPlace.mp c17)
      refine q_aload_n eX11_meets_20 rfl ?_
      refine q_aload_n eX11_meets_21 rfl ?_
      have f7 := h.1
      have h := h.2
      refine q_V0 (ci := 11) (n := 0) eX11_meets_22 DX11_allPlaces lX11_463 rfl (by decide) rfl rfl rfl rfl (p_X11_allPlaces f7 hA1) ?_
      rintro _ _ ⟨rfl, rfl⟩
      refine q_V1 (ci := 11) (n := 0) eX11_meets_25 DX11_clash lX11_467 rfl (by decide) rfl rfl rfl rfl (h.1 hA1) ?_
      rintro _ _ ⟨s8, v8, rfl, hA8, b8, rfl, h⟩
      have h := h b8
      refine q_iz_eq (tgt := 33) (a := v8) eX11_meets_28 (by decide) (ofz (r01 b8)) (fun c28 => ?_) (fun c28 => ?_)
      · have h := h.1 c28
        refine q_aload_n eX11_meets_33 rfl ?_
        refine q_aload_n eX11_meets_34 rfl ?_
        refine q_iload_n eX11_meets_35 rfl ?_
        have f10 := h.1
        have h := h.2
        refine q_V1 (ci := 11) (n := 0) eX11_meets_36 DX11_standsAs lX11_470 rfl (by decide) rfl rfl rfl rfl (p_X11_standsAs f10 hA8 hrp) ?_
        rintro _ _ ⟨r9, rfl, rfl⟩
        refine q_aload_n eX11_meets_39 rfl ?_
        refine q_iload_n eX11_meets_40 rfl ?_
        have f12 := h.1
        have h := h.2
        refine q_V1 (ci := 11) (n := 0) eX11_meets_41 DX11_standsAs lX11_470 rfl (by decide) rfl rfl rfl rfl (p_X11_standsAs f12 hA8 hrq) ?_
        rintro _ _ ⟨r11, rfl, rfl⟩
        refine q_V2 (ci := 11) (n := 0) eX11_meets_44 DX11_unite lX11_447 rfl (by decide) rfl rfl rfl rfl (h.1 hA8 r9 r11) ?_
        rintro _ _ ⟨s13, v13, rfl, hA13, b13, rfl, h⟩
        have h := h b13
        refine q_iz_eq (tgt := 61) (a := v13) eX11_meets_47 (by decide) (ofz (r01 b13)) (fun c47 => ?_) (fun c47 => ?_)
        · have h := h.1 c47
          refine q_ic (v := Int32.ofInt 0) eX11_meets_61 rfl ?_
          exact q_iret eX11_meets_62 rfl ⟨_, _, rfl, hA13, (r32l rfl), rfl, h⟩
        · have h := h.2 c47
          refine q_aload_n eX11_meets_50 rfl ?_
          refine q_V0 (ci := 11) (n := 0) eX11_meets_51 DX11_isSound lX11_451 rfl (by decide) rfl rfl rfl rfl (h.1 hA13) ?_
          rintro _ _ ⟨s14, v14, rfl, hA14, b14, rfl, h⟩
          have h := h b14
          refine q_iz_eq (tgt := 61) (a := v14) eX11_meets_54 (by decide) (ofz (r01 b14)) (fun c54 => ?_) (fun c54 => ?_)
          · have h := h.1 c54
            refine q_ic (v := Int32.ofInt 0) eX11_meets_61 rfl ?_
            exact q_iret eX11_meets_62 rfl ⟨_, _, rfl, hA14, (r32l rfl), rfl, h⟩
          · have h := h.2 c54
            refine q_ic (v := Int32.ofInt 1) eX11_meets_57 rfl ?_
            refine q_goto (tgt := 62) eX11_meets_58 (by decide) ?_
            exact q_iret eX11_meets_62 rfl ⟨_, _, rfl, hA14, (r32l rfl), rfl, h⟩
      · have h := h.2 c28
        refine q_ic (v := Int32.ofInt (-1)) eX11_meets_31 rfl ?_
        exact q_iret eX11_meets_32 rfl ⟨_, _, rfl, hA8, (r32l rfl), rfl, h⟩
