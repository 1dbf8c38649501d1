/-! STEP ROWS of the reference. By program (wip/wp/gen_parts.py). -/
theorem eX11_layMeant_0 : decode cX11_layMeant 0 = .ok (.aload_n 0, 1) := by decide +kernel
theorem eX11_layMeant_1 : decode cX11_layMeant 1 = .ok (.iconst 0, 1) := by decide +kernel
theorem eX11_layMeant_2 : decode cX11_layMeant 2 = .ok (.putfield 516, 3) := by decide +kernel
theorem eX11_layMeant_5 : decode cX11_layMeant 5 = .ok (.bipush 40, 2) := by decide +kernel
theorem eX11_layMeant_7 : decode cX11_layMeant 7 = .ok (.aload_n 0, 1) := by decide +kernel
theorem eX11_layMeant_8 : decode cX11_layMeant 8 = .ok (.getfield 321, 3) := by decide +kernel
theorem eX11_layMeant_11 : decode cX11_layMeant 11 = .ok (.imul, 1) := by decide +kernel
theorem eX11_layMeant_12 : decode cX11_layMeant 12 = .ok (.iload_n 1, 1) := by decide +kernel
theorem eX11_layMeant_13 : decode cX11_layMeant 13 = .ok (.iadd, 1) := by decide +kernel
theorem eX11_layMeant_14 : decode cX11_layMeant 14 = .ok (.istore_n 2, 1) := by decide +kernel
theorem eX11_layMeant_15 : decode cX11_layMeant 15 = .ok (.iload_n 1, 1) := by decide +kernel
theorem eX11_layMeant_16 : decode cX11_layMeant 16 = .ok (.iconst 1, 1) := by decide +kernel
theorem eX11_layMeant_17 : decode cX11_layMeant 17 = .ok (.isub, 1) := by decide +kernel
theorem eX11_layMeant_18 : decode cX11_layMeant 18 = .ok (.istore_n 3, 1) := by decide +kernel
theorem eX11_layMeant_19 : decode cX11_layMeant 19 = .ok (.iload_n 3, 1) := by decide +kernel
theorem eX11_layMeant_20 : decode cX11_layMeant 20 = .ok (.aload_n 0, 1) := by decide +kernel
theorem eX11_layMeant_21 : decode cX11_layMeant 21 = .ok (.getfield 30, 3) := by decide +kernel
theorem eX11_layMeant_24 : decode cX11_layMeant 24 = .ok (.bipush 8, 2) := by decide +kernel
theorem eX11_layMeant_26 : decode cX11_layMeant 26 = .ok (.aload_n 0, 1) := by decide +kernel
theorem eX11_layMeant_27 : decode cX11_layMeant 27 = .ok (.getfield 321, 3) := by decide +kernel
theorem eX11_layMeant_30 : decode cX11_layMeant 30 = .ok (.imul, 1) := by decide +kernel
theorem eX11_layMeant_31 : decode cX11_layMeant 31 = .ok (.aload_n 0, 1) := by decide +kernel
theorem eX11_layMeant_32 : decode cX11_layMeant 32 = .ok (.getfield 42, 3) := by decide +kernel
theorem eX11_layMeant_35 : decode cX11_layMeant 35 = .ok (.iload_n 2, 1) := by decide +kernel
theorem eX11_layMeant_36 : decode cX11_layMeant 36 = .ok (.iaload, 1) := by decide +kernel
theorem eX11_layMeant_37 : decode cX11_layMeant 37 = .ok (.iadd, 1) := by decide +kernel
theorem eX11_layMeant_38 : decode cX11_layMeant 38 = .ok (.iaload, 1) := by decide +kernel
theorem eX11_layMeant_39 : decode cX11_layMeant 39 = .ok (.if_icmp .lt 80, 3) := by decide +kernel
theorem eX11_layMeant_42 : decode cX11_layMeant 42 = .ok (.bipush 40, 2) := by decide +kernel
theorem eX11_layMeant_44 : decode cX11_layMeant 44 = .ok (.aload_n 0, 1) := by decide +kernel
theorem eX11_layMeant_45 : decode cX11_layMeant 45 = .ok (.getfield 321, 3) := by decide +kernel
theorem eX11_layMeant_48 : decode cX11_layMeant 48 = .ok (.imul, 1) := by decide +kernel
theorem eX11_layMeant_49 : decode cX11_layMeant 49 = .ok (.iload_n 3, 1) := by decide +kernel
theorem eX11_layMeant_50 : decode cX11_layMeant 50 = .ok (.iadd, 1) := by decide +kernel
theorem eX11_layMeant_51 : decode cX11_layMeant 51 = .ok (.istore 4, 2) := by decide +kernel
theorem eX11_layMeant_53 : decode cX11_layMeant 53 = .ok (.aload_n 0, 1) := by decide +kernel
theorem eX11_layMeant_54 : decode cX11_layMeant 54 = .ok (.getfield 45, 3) := by decide +kernel
theorem eX11_layMeant_57 : decode cX11_layMeant 57 = .ok (.iload 4, 2) := by decide +kernel
theorem eX11_layMeant_59 : decode cX11_layMeant 59 = .ok (.iaload, 1) := by decide +kernel
theorem eX11_layMeant_60 : decode cX11_layMeant 60 = .ok (.iload_n 1, 1) := by decide +kernel
theorem eX11_layMeant_61 : decode cX11_layMeant 61 = .ok (.if_icmp .lt 52, 3) := by decide +kernel
theorem eX11_layMeant_64 : decode cX11_layMeant 64 = .ok (.aload_n 0, 1) := by decide +kernel
theorem eX11_layMeant_65 : decode cX11_layMeant 65 = .ok (.getfield 33, 3) := by decide +kernel
theorem eX11_layMeant_68 : decode cX11_layMeant 68 = .ok (.iload 4, 2) := by decide +kernel
theorem eX11_layMeant_70 : decode cX11_layMeant 70 = .ok (.iaload, 1) := by decide +kernel
theorem eX11_layMeant_71 : decode cX11_layMeant 71 = .ok (.iconst 3, 1) := by decide +kernel
theorem eX11_layMeant_72 : decode cX11_layMeant 72 = .ok (.if_icmp .eq 29, 3) := by decide +kernel
theorem eX11_layMeant_75 : decode cX11_layMeant 75 = .ok (.aload_n 0, 1) := by decide +kernel
theorem eX11_layMeant_76 : decode cX11_layMeant 76 = .ok (.getfield 33, 3) := by decide +kernel
theorem eX11_layMeant_79 : decode cX11_layMeant 79 = .ok (.iload 4, 2) := by decide +kernel
theorem eX11_layMeant_81 : decode cX11_layMeant 81 = .ok (.iaload, 1) := by decide +kernel
theorem eX11_layMeant_82 : decode cX11_layMeant 82 = .ok (.iconst 4, 1) := by decide +kernel
theorem eX11_layMeant_83 : decode cX11_layMeant 83 = .ok (.if_icmp .ne 30, 3) := by decide +kernel
theorem eX11_layMeant_86 : decode cX11_layMeant 86 = .ok (.iload_n 1, 1) := by decide +kernel
theorem eX11_layMeant_87 : decode cX11_layMeant 87 = .ok (.aload_n 0, 1) := by decide +kernel
theorem eX11_layMeant_88 : decode cX11_layMeant 88 = .ok (.getfield 51, 3) := by decide +kernel
theorem eX11_layMeant_91 : decode cX11_layMeant 91 = .ok (.iconst 3, 1) := by decide +kernel
theorem eX11_layMeant_92 : decode cX11_layMeant 92 = .ok (.iload 4, 2) := by decide +kernel
theorem eX11_layMeant_94 : decode cX11_layMeant 94 = .ok (.imul, 1) := by decide +kernel
theorem eX11_layMeant_95 : decode cX11_layMeant 95 = .ok (.iconst 1, 1) := by decide +kernel
theorem eX11_layMeant_96 : decode cX11_layMeant 96 = .ok (.iadd, 1) := by decide +kernel
theorem eX11_layMeant_97 : decode cX11_layMeant 97 = .ok (.iaload, 1) := by decide +kernel
theorem eX11_layMeant_98 : decode cX11_layMeant 98 = .ok (.if_icmp .lt 15, 3) := by decide +kernel
theorem eX11_layMeant_101 : decode cX11_layMeant 101 = .ok (.aload_n 0, 1) := by decide +kernel
theorem eX11_layMeant_102 : decode cX11_layMeant 102 = .ok (.iload_n 3, 1) := by decide +kernel
theorem eX11_layMeant_103 : decode cX11_layMeant 103 = .ok (.aload_n 0, 1) := by decide +kernel
theorem eX11_layMeant_104 : decode cX11_layMeant 104 = .ok (.getfield 70, 3) := by decide +kernel
theorem eX11_layMeant_107 : decode cX11_layMeant 107 = .ok (.iload 4, 2) := by decide +kernel
theorem eX11_layMeant_109 : decode cX11_layMeant 109 = .ok (.laload, 1) := by decide +kernel
theorem eX11_layMeant_110 : decode cX11_layMeant 110 = .ok (.invokevirtual 519, 3) := by decide +kernel
theorem eX11_layMeant_113 : decode cX11_layMeant 113 = .ok (.iinc 3 (-1), 3) := by decide +kernel
theorem eX11_layMeant_116 : decode cX11_layMeant 116 = .ok (.goto (-97), 3) := by decide +kernel
theorem eX11_layMeant_119 : decode cX11_layMeant 119 = .ok (.aload_n 0, 1) := by decide +kernel
theorem eX11_layMeant_120 : decode cX11_layMeant 120 = .ok (.getfield 42, 3) := by decide +kernel
theorem eX11_layMeant_123 : decode cX11_layMeant 123 = .ok (.iload_n 2, 1) := by decide +kernel
theorem eX11_layMeant_124 : decode cX11_layMeant 124 = .ok (.iaload, 1) := by decide +kernel
theorem eX11_layMeant_125 : decode cX11_layMeant 125 = .ok (.iconst 1, 1) := by decide +kernel
theorem eX11_layMeant_126 : decode cX11_layMeant 126 = .ok (.isub, 1) := by decide +kernel
theorem eX11_layMeant_127 : decode cX11_layMeant 127 = .ok (.istore_n 3, 1) := by decide +kernel
theorem eX11_layMeant_128 : decode cX11_layMeant 128 = .ok (.iload_n 3, 1) := by decide +kernel
theorem eX11_layMeant_129 : decode cX11_layMeant 129 = .ok (.ifCond .lt 31, 3) := by decide +kernel
theorem eX11_layMeant_132 : decode cX11_layMeant 132 = .ok (.aload_n 0, 1) := by decide +kernel
theorem eX11_layMeant_133 : decode cX11_layMeant 133 = .ok (.bipush 100, 2) := by decide +kernel
theorem eX11_layMeant_135 : decode cX11_layMeant 135 = .ok (.iload_n 3, 1) := by decide +kernel
theorem eX11_layMeant_136 : decode cX11_layMeant 136 = .ok (.iadd, 1) := by decide +kernel
theorem eX11_layMeant_137 : decode cX11_layMeant 137 = .ok (.aload_n 0, 1) := by decide +kernel
theorem eX11_layMeant_138 : decode cX11_layMeant 138 = .ok (.getfield 66, 3) := by decide +kernel
theorem eX11_layMeant_141 : decode cX11_layMeant 141 = .ok (.bipush 8, 2) := by decide +kernel
theorem eX11_layMeant_143 : decode cX11_layMeant 143 = .ok (.aload_n 0, 1) := by decide +kernel
theorem eX11_layMeant_144 : decode cX11_layMeant 144 = .ok (.getfield 321, 3) := by decide +kernel
theorem eX11_layMeant_147 : decode cX11_layMeant 147 = .ok (.imul, 1) := by decide +kernel
theorem eX11_layMeant_148 : decode cX11_layMeant 148 = .ok (.iload_n 3, 1) := by decide +kernel
theorem eX11_layMeant_149 : decode cX11_layMeant 149 = .ok (.iadd, 1) := by decide +kernel
theorem eX11_layMeant_150 : decode cX11_layMeant 150 = .ok (.laload, 1) := by decide +kernel
theorem eX11_layMeant_151 : decode cX11_layMeant 151 = .ok (.invokevirtual 519, 3) := by decide +kernel
theorem eX11_layMeant_154 : decode cX11_layMeant 154 = .ok (.iinc 3 (-1), 3) := by decide +kernel
theorem eX11_layMeant_157 : decode cX11_layMeant 157 = .ok (.goto (-29), 3) := by decide +kernel
theorem eX11_layMeant_160 : decode cX11_layMeant 160 = .ok (.return_, 1) := by decide +kernel
def C_X11_layMeant (s : ST) (p : Int) (Q : ST → Prop) : Prop := bx <| RA s → R32 p → q_met mX11_layMeant (qs layM s) [.ref 139, .int (Int32.ofInt p)] (PV layM Q)
theorem C_X11_layMeant.mono {s : ST} {p : Int} {Q Q' : ST → Prop} (h : C_X11_layMeant s p Q) (hq : ∀ s, Q s → Q' s) : C_X11_layMeant s p Q' := ⟨fun hA hrp => q_met.mono (h.1 hA hrp) (fun _ _ => PV.mono hq), trivial⟩
def K_X11_layMeant_128 (s : ST) (a3 : Int) (Q : ST → Prop) : Prop := bx <| RA s → R32 a3 → q_K mX11_layMeant (qs layM s) 0 0 128 [(0, .ref 139), (3, .int (Int32.ofInt a3))] [] (q_fin mX11_layMeant (PV layM Q))
def K_X11_layMeant_101 (s : ST) (a1 : Int) (a2 : Int) (a3 : Int) (a4 : Int) (Q : ST → Prop) : Prop := bx <| RA s → R32 a1 → R32 a2 → R32 a3 → R32 a4 → q_K mX11_layMeant (qs layM s) 0 0 101 [(0, .ref 139), (1, .int (Int32.ofInt a1)), (2, .int (Int32.ofInt a2)), (3, .int (Int32.ofInt a3)), (4, .int (Int32.ofInt a4))] [] (q_fin mX11_layMeant (PV layM Q))
def K_X11_layMeant_19 (s : ST) (a1 : Int) (a2 : Int) (a3 : Int) (Q : ST → Prop) : Prop := bx <| RA s → R32 a1 → R32 a2 → R32 a3 → q_K mX11_layMeant (qs layM s) 0 0 19 [(0, .ref 139), (1, .int (Int32.ofInt a1)), (2, .int (Int32.ofInt a2)), (3, .int (Int32.ofInt a3))] [] (q_fin mX11_layMeant (PV layM Q))
set_option maxRecDepth 20000 in
theorem s_X11_layMeant_128 {s : ST} {a3 : Int} {Q : ST → Prop} (h : RA s → R32 a3 → ((a3 < 0 → Q s) ∧ (¬ a3 < 0 → (R32 (100 + a3) ∧ (R32 (8 * s.1 139 28) ∧ (R32 ((8 * s.1 139 28) + a3) ∧ (((0 : Int) ≤ ((8 * s.1 139 28) + a3) ∧ ((8 * s.1 139 28) + a3) < 48) ∧ (C_X11_means s (100 + a3) (s.2 157 ((8 * s.1 139 28) + a3)) (fun s5 => (R32 (a3 - 1) ∧ K_X11_layMeant_128 s5 (a3 - 1) Q)))))))))) : K_X11_layMeant_128 s a3 Q := by
  refine ⟨?_, trivial⟩
  intro hA hra3
  have h := h hA hra3
  refine q_iload_n eX11_layMeant_128 rfl ?_
  refine q_iz_lt (tgt := 160) (a := a3) eX11_layMeant_129 (by decide) (ofz hra3) (fun c129 => ?_) (fun c129 => ?_)
  · have h := h.1 c129
    exact q_ret eX11_layMeant_160 rfl ⟨_, rfl, hA, rfl, h⟩
  · have h := h.2 c129
    refine q_aload_n eX11_layMeant_132 rfl ?_
    refine q_bi (v := Int32.ofInt 100) eX11_layMeant_133 rfl ?_
    refine q_iload_n eX11_layMeant_135 rfl ?_
    refine z_iadd eX11_layMeant_136 ?_
    have r1 := h.1
    have h := h.2
    refine q_aload_n eX11_layMeant_137 rfl ?_
    refine q_getR (c := 11) (n := 0) (k := 26) (a := 157) eX11_layMeant_138 rfl (by decide) (by decide) fX11_66 rfl rfl ?_
    refine q_bi (v := Int32.ofInt 8) eX11_layMeant_141 rfl ?_
    refine q_aload_n eX11_layMeant_143 rfl ?_
    refine q_getf (c := 11) (n := 0) (k := 28) (v := .int (Int32.ofInt (s.1 139 28))) eX11_layMeant_144 rfl (by decide) (by decide) fX11_321 rfl ?_
    refine z_imul eX11_layMeant_147 ?_
    have r2 := h.1
    have h := h.2
    refine q_iload_n eX11_layMeant_148 rfl ?_
    refine z_iadd eX11_layMeant_149 ?_
    have r3 := h.1
    have h := h.2
    have f4 := h.1
    have h := h.2
    refine z_lald (n := 48) eX11_layMeant_150 rfl (ofz r3) f4 ?_
    refine q_topL (v := s.2 157 ((8 * s.1 139 28) + a3)) rfl ?_
    refine q_V2 (ci := 11) (n := 0) eX11_layMeant_151 DX11_means lX11_519 rfl (by decide) rfl rfl rfl rfl (h.1 hA r1) ?_
    rintro _ _ ⟨s5, rfl, hA5, rfl, h⟩
    have r6 := h.1
    have h := h.2
    refine z_incN (m := 1) eX11_layMeant_154 rfl (Nat.le_of_ble_eq_true rfl) rfl ?_
    refine q_goto (tgt := 128) eX11_layMeant_157 (by decide) ?_
    exact q_subL rfl (h.1 hA5 r6)
set_option maxRecDepth 20000 in
theorem s_X11_layMeant_101 {s : ST} {a1 : Int} {a2 : Int} {a3 : Int} {a4 : Int} {Q : ST → Prop} (h : RA s → R32 a1 → R32 a2 → R32 a3 → R32 a4 → (((0 : Int) ≤ a4 ∧ a4 < 240) ∧ (C_X11_means s a3 (s.2 158 a4) (fun s2 => (R32 (a3 - 1) ∧ K_X11_layMeant_19 s2 a1 a2 (a3 - 1) Q))))) : K_X11_layMeant_101 s a1 a2 a3 a4 Q := by
  refine ⟨?_, trivial⟩
  intro hA hra1 hra2 hra3 hra4
  have h := h hA hra1 hra2 hra3 hra4
  refine q_aload_n eX11_layMeant_101 rfl ?_
  refine q_iload_n eX11_layMeant_102 rfl ?_
  refine q_aload_n eX11_layMeant_103 rfl ?_
  refine q_getR (c := 11) (n := 0) (k := 27) (a := 158) eX11_layMeant_104 rfl (by decide) (by decide) fX11_70 rfl rfl ?_
  refine q_iload eX11_layMeant_107 rfl ?_
  have f1 := h.1
  have h := h.2
  refine z_lald (n := 240) eX11_layMeant_109 rfl (ofz hra4) f1 ?_
  refine q_topL (v := s.2 158 a4) rfl ?_
  refine q_V2 (ci := 11) (n := 0) eX11_layMeant_110 DX11_means lX11_519 rfl (by decide) rfl rfl rfl rfl (h.1 hA hra3) ?_
  rintro _ _ ⟨s2, rfl, hA2, rfl, h⟩
  have r3 := h.1
  have h := h.2
  refine z_incN (m := 1) eX11_layMeant_113 rfl (Nat.le_of_ble_eq_true rfl) rfl ?_
  refine q_goto (tgt := 19) eX11_layMeant_116 (by decide) ?_
  exact q_subL rfl (h.1 hA2 hra1 hra2 r3)
set_option maxRecDepth 20000 in
theorem s_X11_layMeant_19 {s : ST} {a1 : Int} {a2 : Int} {a3 : Int} {Q : ST → Prop} (h : RA s → R32 a1 → R32 a2 → R32 a3 → (R32 (8 * s.1 139 28) ∧ (((0 : Int) ≤ a2 ∧ a2 < 240) ∧ (R32 ((8 * s.1 139 28) + s.1 149 a2) ∧ (((0 : Int) ≤ ((8 * s.1 139 28) + s.1 149 a2) ∧ ((8 * s.1 139 28) + s.1 149 a2) < 48) ∧ ((a3 < s.1 145 ((8 * s.1 139 28) + s.1 149 a2) → (R32 (s.1 149 a2 - 1) ∧ K_X11_layMeant_128 s (s.1 149 a2 - 1) Q)) ∧ (¬ a3 < s.1 145 ((8 * s.1 139 28) + s.1 149 a2) → (R32 (40 * s.1 139 28) ∧ (R32 ((40 * s.1 139 28) + a3) ∧ (((0 : Int) ≤ ((40 * s.1 139 28) + a3) ∧ ((40 * s.1 139 28) + a3) < 240) ∧ ((s.1 150 ((40 * s.1 139 28) + a3) < a1 → (R32 (a3 - 1) ∧ K_X11_layMeant_19 s a1 a2 (a3 - 1) Q)) ∧ (¬ s.1 150 ((40 * s.1 139 28) + a3) < a1 → ((s.1 146 ((40 * s.1 139 28) + a3) = 3 → K_X11_layMeant_101 s a1 a2 a3 ((40 * s.1 139 28) + a3) Q) ∧ (¬ s.1 146 ((40 * s.1 139 28) + a3) = 3 → ((¬ s.1 146 ((40 * s.1 139 28) + a3) = 4 → (R32 (a3 - 1) ∧ K_X11_layMeant_19 s a1 a2 (a3 - 1) Q)) ∧ (s.1 146 ((40 * s.1 139 28) + a3) = 4 → (R32 (3 * ((40 * s.1 139 28) + a3)) ∧ (R32 ((3 * ((40 * s.1 139 28) + a3)) + 1) ∧ (((0 : Int) ≤ ((3 * ((40 * s.1 139 28) + a3)) + 1) ∧ ((3 * ((40 * s.1 139 28) + a3)) + 1) < 720) ∧ ((a1 < s.1 152 ((3 * ((40 * s.1 139 28) + a3)) + 1) → (R32 (a3 - 1) ∧ K_X11_layMeant_19 s a1 a2 (a3 - 1) Q)) ∧ (¬ a1 < s.1 152 ((3 * ((40 * s.1 139 28) + a3)) + 1) → K_X11_layMeant_101 s a1 a2 a3 ((40 * s.1 139 28) + a3) Q))))))))))))))))))))) : K_X11_layMeant_19 s a1 a2 a3 Q := by
  refine ⟨?_, trivial⟩
  intro hA hra1 hra2 hra3
  have h := h hA hra1 hra2 hra3
  refine q_iload_n eX11_layMeant_19 rfl ?_
  refine q_aload_n eX11_layMeant_20 rfl ?_
  refine q_getR (c := 11) (n := 0) (k := 14) (a := 145) eX11_layMeant_21 rfl (by decide) (by decide) fX11_30 rfl rfl ?_
  refine q_bi (v := Int32.ofInt 8) eX11_layMeant_24 rfl ?_
  refine q_aload_n eX11_layMeant_26 rfl ?_
  refine q_getf (c := 11) (n := 0) (k := 28) (v := .int (Int32.ofInt (s.1 139 28))) eX11_layMeant_27 rfl (by decide) (by decide) fX11_321 rfl ?_
  refine z_imul eX11_layMeant_30 ?_
  have r1 := h.1
  have h := h.2
  refine q_aload_n eX11_layMeant_31 rfl ?_
  refine q_getR (c := 11) (n := 0) (k := 18) (a := 149) eX11_layMeant_32 rfl (by decide) (by decide) fX11_42 rfl rfl ?_
  refine q_iload_n eX11_layMeant_35 rfl ?_
  have f2 := h.1
  have h := h.2
  refine z_iald (n := 240) eX11_layMeant_36 rfl (ofz hra2) f2 ?_
  refine q_topI (v := Int32.ofInt (s.1 149 a2)) rfl ?_
  refine z_iadd eX11_layMeant_37 ?_
  have r3 := h.1
  have h := h.2
  have f4 := h.1
  have h := h.2
  refine z_iald (n := 48) eX11_layMeant_38 rfl (ofz r3) f4 ?_
  refine q_topI (v := Int32.ofInt (s.1 145 ((8 * s.1 139 28) + s.1 149 a2))) rfl ?_
  refine q_cz_lt (tgt := 119) (a := a3) (b := s.1 145 ((8 * s.1 139 28) + s.1 149 a2)) eX11_layMeant_39 (by decide) (ofz hra3) (ofz (hA _ _)) (fun c39 => ?_) (fun c39 => ?_)
  · have h := h.1 c39
    refine q_aload_n eX11_layMeant_119 rfl ?_
    refine q_getR (c := 11) (n := 0) (k := 18) (a := 149) eX11_layMeant_120 rfl (by decide) (by decide) fX11_42 rfl rfl ?_
    refine q_iload_n eX11_layMeant_123 rfl ?_
    refine z_iald (n := 240) eX11_layMeant_124 rfl (ofz hra2) f2 ?_
    refine q_topI (v := Int32.ofInt (s.1 149 a2)) rfl ?_
    refine q_ic (v := Int32.ofInt 1) eX11_layMeant_125 rfl ?_
    refine z_isub eX11_layMeant_126 ?_
    have r5 := h.1
    have h := h.2
    refine q_istore_n eX11_layMeant_127 (Nat.le_of_ble_eq_true rfl) ?_
    exact q_subL rfl (h.1 hA r5)
  · have h := h.2 c39
    refine q_bi (v := Int32.ofInt 40) eX11_layMeant_42 rfl ?_
    refine q_aload_n eX11_layMeant_44 rfl ?_
    refine q_getf (c := 11) (n := 0) (k := 28) (v := .int (Int32.ofInt (s.1 139 28))) eX11_layMeant_45 rfl (by decide) (by decide) fX11_321 rfl ?_
    refine z_imul eX11_layMeant_48 ?_
    have r6 := h.1
    have h := h.2
    refine q_iload_n eX11_layMeant_49 rfl ?_
    refine z_iadd eX11_layMeant_50 ?_
    have r7 := h.1
    have h := h.2
    refine q_istore eX11_layMeant_51 (Nat.le_of_ble_eq_true rfl) ?_
    refine q_aload_n eX11_layMeant_53 rfl ?_
    refine q_getR (c := 11) (n := 0) (k := 19) (a := 150) eX11_layMeant_54 rfl (by decide) (by decide) fX11_45 rfl rfl ?_
    refine q_iload eX11_layMeant_57 rfl ?_
    have f8 := h.1
    have h := h.2
    refine z_iald (n := 240) eX11_layMeant_59 rfl (ofz r7) f8 ?_
    refine q_topI (v := Int32.ofInt (s.1 150 ((40 * s.1 139 28) + a3))) rfl ?_
    refine q_iload_n eX11_layMeant_60 rfl ?_
    refine q_cz_lt (tgt := 113) (a := s.1 150 ((40 * s.1 139 28) + a3)) (b := a1) eX11_layMeant_61 (by decide) (ofz (hA _ _)) (ofz hra1) (fun c61 => ?_) (fun c61 => ?_)
    · have h := h.1 c61
      have r9 := h.1
      have h := h.2
      refine z_incN (m := 1) eX11_layMeant_113 rfl (Nat.le_of_ble_eq_true rfl) rfl ?_
      refine q_goto (tgt := 19) eX11_layMeant_116 (by decide) ?_
      exact q_subL rfl (h.1 hA hra1 hra2 r9)
    · have h := h.2 c61
      refine q_aload_n eX11_layMeant_64 rfl ?_
      refine q_getR (c := 11) (n := 0) (k := 15) (a := 146) eX11_layMeant_65 rfl (by decide) (by decide) fX11_33 rfl rfl ?_
      refine q_iload eX11_layMeant_68 rfl ?_
      refine z_iald (n := 240) eX11_layMeant_70 rfl (ofz r7) f8 ?_
      refine q_topI (v := Int32.ofInt (s.1 146 ((40 * s.1 139 28) + a3))) rfl ?_
      refine q_ic (v := Int32.ofInt 3) eX11_layMeant_71 rfl ?_
      refine q_cz_eq (tgt := 101) (a := s.1 146 ((40 * s.1 139 28) + a3)) (b := 3) eX11_layMeant_72 (by decide) (ofz (hA _ _)) (ofz (r32l rfl)) (fun c72 => ?_) (fun c72 => ?_)
      · have h := h.1 c72
        exact q_subL rfl (h.1 hA hra1 hra2 hra3 r7)
      · have h := h.2 c72
        refine q_aload_n eX11_layMeant_75 rfl ?_
        refine q_getR (c := 11) (n := 0) (k := 15) (a := 146) eX11_layMeant_76 rfl (by decide) (by decide) fX11_33 rfl rfl ?_
        refine q_iload eX11_layMeant_79 rfl ?_
        refine z_iald (n := 240) eX11_layMeant_81 rfl (ofz r7) f8 ?_
        refine q_topI (v := Int32.ofInt (s.1 146 ((40 * s.1 139 28) + a3))) rfl ?_
        refine q_ic (v := Int32.ofInt 4) eX11_layMeant_82 rfl ?_
        refine q_cz_ne (tgt := 113) (a := s.1 146 ((40 * s.1 139 28) + a3)) (b := 4) eX11_layMeant_83 (by decide) (ofz (hA _ _)) (ofz (r32l rfl)) (fun c83 => ?_) (fun c83 => ?_)
        · have h := h.1 c83
          have r10 := h.1
          have h := h.2
          refine z_incN (m := 1) eX11_layMeant_113 rfl (Nat.le_of_ble_eq_true rfl) rfl ?_
          refine q_goto (tgt := 19) eX11_layMeant_116 (by decide) ?_
          exact q_subL rfl (h.1 hA hra1 hra2 r10)
        · have h := h.2 c83
          refine q_iload_n eX11_layMeant_86 rfl ?_
          refine q_aload_n eX11_layMeant_87 rfl ?_
          refine q_getR (c := 11) (n := 0) (k := 21) (a := 152) eX11_layMeant_88 rfl (by decide) (by decide) fX11_51 rfl rfl ?_
          refine q_ic (v := Int32.ofInt 3) eX11_layMeant_91 rfl ?_
          refine q_iload eX11_layMeant_92 rfl ?_
          refine z_imul eX11_layMeant_94 ?_
          have r11 := h.1
          have h := h.2
          refine q_ic (v := Int32.ofInt 1) eX11_layMeant_95 rfl ?_
          refine z_iadd eX11_layMeant_96 ?_
          have r12 := h.1
          have h := h.2
          have f13 := h.1
          have h := h.2
          refine z_iald (n := 720) eX11_layMeant_97 rfl (ofz r12) f13 ?_
          refine q_topI (v := Int32.ofInt (s.1 152 ((3 * ((40 * s.1 139 28) + a3)) + 1))) rfl ?_
          refine q_cz_lt (tgt := 113) (a := a1) (b := s.1 152 ((3 * ((40 * s.1 139 28) + a3)) + 1)) eX11_layMeant_98 (by decide) (ofz hra1) (ofz (hA _ _)) (fun c98 => ?_) (fun c98 => ?_)
          · have h := h.1 c98
            have r14 := h.1
            have h := h.2
            refine z_incN (m := 1) eX11_layMeant_113 rfl (Nat.le_of_ble_eq_true rfl) rfl ?_
            refine q_goto (tgt := 19) eX11_layMeant_116 (by decide) ?_
            exact q_subL rfl (h.1 hA hra1 hra2 r14)
          · have h := h.2 c98
            exact q_subL rfl (h.1 hA hra1 hra2 hra3 r7)
set_option maxRecDepth 20000 in
theorem s_X11_layMeant {s : ST} {p : Int} {Q : ST → Prop} (h : RA s → R32 p → (R32 (40 * s.1 139 28) ∧ (R32 ((40 * s.1 139 28) + p) ∧ (R32 (p - 1) ∧ K_X11_layMeant_19 (ui s 139 71 0) p ((40 * s.1 139 28) + p) (p - 1) Q)))) : C_X11_layMeant s p Q := by
  refine ⟨?_, trivial⟩
  intro hA hrp
  have h := h hA hrp
  refine q_enter (by decide) (Nat.le_of_ble_eq_true rfl) ?_
  refine q_aload_n eX11_layMeant_0 rfl ?_
  refine q_ic (v := Int32.ofInt 0) eX11_layMeant_1 rfl ?_
  refine z_putI (c := 11) (n := 0) (k := 71) (kz := 71) eX11_layMeant_2 rfl (by decide) (by decide) fX11_516 rfl rfl rfl ?_
  refine q_bi (v := Int32.ofInt 40) eX11_layMeant_5 rfl ?_
  refine q_aload_n eX11_layMeant_7 rfl ?_
  refine q_getf (c := 11) (n := 0) (k := 28) (v := .int (Int32.ofInt (s.1 139 28))) eX11_layMeant_8 rfl (by decide) (by decide) fX11_321 rfl ?_
  refine z_imul eX11_layMeant_11 ?_
  have r1 := h.1
  have h := h.2
  refine q_iload_n eX11_layMeant_12 rfl ?_
  refine z_iadd eX11_layMeant_13 ?_
  have r2 := h.1
  have h := h.2
  refine q_istore_n eX11_layMeant_14 (Nat.le_of_ble_eq_true rfl) ?_
  refine q_iload_n eX11_layMeant_15 rfl ?_
  refine q_ic (v := Int32.ofInt 1) eX11_layMeant_16 rfl ?_
  refine z_isub eX11_layMeant_17 ?_
  have r3 := h.1
  have h := h.2
  refine q_istore_n eX11_layMeant_18 (Nat.le_of_ble_eq_true rfl) ?_
  exact q_subL rfl (h.1 (ra_ui hA (r32l rfl)) hrp r2 r3)
theorem eX11_canTurn_0 : decode cX11_canTurn 0 = .ok (.iload_n 0, 1) := by decide +kernel
theorem eX11_canTurn_1 : decode cX11_canTurn 1 = .ok (.bipush 6, 2) := by decide +kernel
theorem eX11_canTurn_3 : decode cX11_canTurn 3 = .ok (.if_icmp .eq 32, 3) := by decide +kernel
theorem eX11_canTurn_6 : decode cX11_canTurn 6 = .ok (.iload_n 0, 1) := by decide +kernel
theorem eX11_canTurn_7 : decode cX11_canTurn 7 = .ok (.bipush 7, 2) := by decide +kernel
theorem eX11_canTurn_9 : decode cX11_canTurn 9 = .ok (.if_icmp .eq 26, 3) := by decide +kernel
theorem eX11_canTurn_12 : decode cX11_canTurn 12 = .ok (.iload_n 0, 1) := by decide +kernel
theorem eX11_canTurn_13 : decode cX11_canTurn 13 = .ok (.bipush 11, 2) := by decide +kernel
theorem eX11_canTurn_15 : decode cX11_canTurn 15 = .ok (.if_icmp .eq 20, 3) := by decide +kernel
theorem eX11_canTurn_18 : decode cX11_canTurn 18 = .ok (.iload_n 0, 1) := by decide +kernel
theorem eX11_canTurn_19 : decode cX11_canTurn 19 = .ok (.bipush 14, 2) := by decide +kernel
theorem eX11_canTurn_21 : decode cX11_canTurn 21 = .ok (.if_icmp .eq 14, 3) := by decide +kernel
theorem eX11_canTurn_24 : decode cX11_canTurn 24 = .ok (.iload_n 0, 1) := by decide +kernel
theorem eX11_canTurn_25 : decode cX11_canTurn 25 = .ok (.bipush 15, 2) := by decide +kernel
theorem eX11_canTurn_27 : decode cX11_canTurn 27 = .ok (.if_icmp .eq 8, 3) := by decide +kernel
theorem eX11_canTurn_30 : decode cX11_canTurn 30 = .ok (.iload_n 0, 1) := by decide +kernel
theorem eX11_canTurn_31 : decode cX11_canTurn 31 = .ok (.iconst 5, 1) := by decide +kernel
theorem eX11_canTurn_32 : decode cX11_canTurn 32 = .ok (.if_icmp .ne 7, 3) := by decide +kernel
theorem eX11_canTurn_35 : decode cX11_canTurn 35 = .ok (.iconst 1, 1) := by decide +kernel
theorem eX11_canTurn_36 : decode cX11_canTurn 36 = .ok (.goto 4, 3) := by decide +kernel
theorem eX11_canTurn_39 : decode cX11_canTurn 39 = .ok (.iconst 0, 1) := by decide +kernel
theorem eX11_canTurn_40 : decode cX11_canTurn 40 = .ok (.ireturn, 1) := by decide +kernel
def C_X11_canTurn (s : ST) (p : Int) (Q : ST → Int → Prop) : Prop := bx <| RA s → R32 p → q_met mX11_canTurn (qs layM s) [.int (Int32.ofInt p)] (PB layM Q)
theorem C_X11_canTurn.mono {s : ST} {p : Int} {Q Q' : ST → Int → Prop} (h : C_X11_canTurn s p Q) (hq : ∀ s v, Q s v → Q' s v) : C_X11_canTurn s p Q' := ⟨fun hA hrp => q_met.mono (h.1 hA hrp) (fun _ _ => PB.mono hq), trivial⟩
set_option maxRecDepth 20000 in
theorem s_X11_canTurn {s : ST} {p : Int} {Q : ST → Int → Prop} (h : RA s → R32 p → ((p = 6 → Q s 1) ∧ (¬ p = 6 → ((p = 7 → Q s 1) ∧ (¬ p = 7 → ((p = 11 → Q s 1) ∧ (¬ p = 11 → ((p = 14 → Q s 1) ∧ (¬ p = 14 → ((p = 15 → Q s 1) ∧ (¬ p = 15 → ((¬ p = 5 → Q s 0) ∧ (p = 5 → Q s 1))))))))))))) : C_X11_canTurn s p Q := by
  refine ⟨?_, trivial⟩
  intro hA hrp
  have h := h hA hrp
  refine q_enter (by decide) (Nat.le_of_ble_eq_true rfl) ?_
  refine q_iload_n eX11_canTurn_0 rfl ?_
  refine q_bi (v := Int32.ofInt 6) eX11_canTurn_1 rfl ?_
  refine q_cz_eq (tgt := 35) (a := p) (b := 6) eX11_canTurn_3 (by decide) (ofz hrp) (ofz (r32l rfl)) (fun c3 => ?_) (fun c3 => ?_)
  · have h := h.1 c3
    refine q_ic (v := Int32.ofInt 1) eX11_canTurn_35 rfl ?_
    refine q_goto (tgt := 40) eX11_canTurn_36 (by decide) ?_
    exact q_zret eX11_canTurn_40 rfl (z01 (Or.inr rfl)) ⟨_, _, rfl, hA, (Or.inr rfl), rfl, h⟩
  · have h := h.2 c3
    refine q_iload_n eX11_canTurn_6 rfl ?_
    refine q_bi (v := Int32.ofInt 7) eX11_canTurn_7 rfl ?_
    refine q_cz_eq (tgt := 35) (a := p) (b := 7) eX11_canTurn_9 (by decide) (ofz hrp) (ofz (r32l rfl)) (fun c9 => ?_) (fun c9 => ?_)
    · have h := h.1 c9
      refine q_ic (v := Int32.ofInt 1) eX11_canTurn_35 rfl ?_
      refine q_goto (tgt := 40) eX11_canTurn_36 (by decide) ?_
      exact q_zret eX11_canTurn_40 rfl (z01 (Or.inr rfl)) ⟨_, _, rfl, hA, (Or.inr rfl), rfl, h⟩
    · have h := h.2 c9
      refine q_iload_n eX11_canTurn_12 rfl ?_
      refine q_bi (v := Int32.ofInt 11) eX11_canTurn_13 rfl ?_
      refine q_cz_eq (tgt := 35) (a := p) (b := 11) eX11_canTurn_15 (by decide) (ofz hrp) (ofz (r32l rfl)) (fun c15 => ?_) (fun c15 => ?_)
      · have h := h.1 c15
        refine q_ic (v := Int32.ofInt 1) eX11_canTurn_35 rfl ?_
        refine q_goto (tgt := 40) eX11_canTurn_36 (by decide) ?_
        exact q_zret eX11_canTurn_40 rfl (z01 (Or.inr rfl)) ⟨_, _, rfl, hA, (Or.inr rfl), rfl, h⟩
      · have h := h.2 c15
        refine q_iload_n eX11_canTurn_18 rfl ?_
        refine q_bi (v := Int32.ofInt 14) eX11_canTurn_19 rfl ?_
        refine q_cz_eq (tgt := 35) (a := p) (b := 14) eX11_canTurn_21 (by decide) (ofz hrp) (ofz (r32l rfl)) (fun c21 => ?_) (fun c21 => ?_)
        · have h := h.1 c21
          refine q_ic (v := Int32.ofInt 1) eX11_canTurn_35 rfl ?_
          refine q_goto (tgt := 40) eX11_canTurn_36 (by decide) ?_
          exact q_zret eX11_canTurn_40 rfl (z01 (Or.inr rfl)) ⟨_, _, rfl, hA, (Or.inr rfl), rfl, h⟩
        · have h := h.2 c21
          refine q_iload_n eX11_canTurn_24 rfl ?_
          refine q_bi (v := Int32.ofInt 15) eX11_canTurn_25 rfl ?_
          refine q_cz_eq (tgt := 35) (a := p) (b := 15) eX11_canTurn_27 (by decide) (ofz hrp) (ofz (r32l rfl)) (fun c27 => ?_) (fun c27 => ?_)
          · have h := h.1 c27
            refine q_ic (v := Int32.ofInt 1) eX11_canTurn_35 rfl ?_
            refine q_goto (tgt := 40) eX11_canTurn_36 (by decide) ?_
            exact q_zret eX11_canTurn_40 rfl (z01 (Or.inr rfl)) ⟨_, _, rfl, hA, (Or.inr rfl), rfl, h⟩
          · have h := h.2 c27
            refine q_iload_n eX11_canTurn_30 rfl ?_
            refine q_ic (v := Int32.ofInt 5) eX11_canTurn_31 rfl ?_
            refine q_cz_ne (tgt := 39) (a := p) (b := 5) eX11_canTurn_32 (by decide) (ofz hrp) (ofz (r32l rfl)) (fun c32 => ?_) (fun c32 => ?_)
            · have h := h.1 c32
              refine q_ic (v := Int32.ofInt 0) eX11_canTurn_39 rfl ?_
              exact q_zret eX11_canTurn_40 rfl (z01 (Or.inl rfl)) ⟨_, _, rfl, hA, (Or.inl rfl), rfl, h⟩
            · have h := h.2 c32
              refine q_ic (v := Int32.ofInt 1) eX11_canTurn_35 rfl ?_
              refine q_goto (tgt := 40) eX11_canTurn_36 (by decide) ?_
              exact q_zret eX11_canTurn_40 rfl (z01 (Or.inr rfl)) ⟨_, _, rfl, hA, (Or.inr rfl), rfl, h⟩
def F_X11_canTurn (s : ST) (p : Int) : Int := (if p = 6 then 1 else (if p = 7 then 1 else (if p = 11 then 1 else (if p = 14 then 1 else (if p = 15 then 1 else (if p = 5 then 1 else 0))))))
theorem w_X11_canTurn {s : ST} {p : Int} : C_X11_canTurn s p (fun s' v => s' = s ∧ v = F_X11_canTurn s p) := by
  refine s_X11_canTurn (fun hA hrp => ?_)
  refine ⟨fun e0 => ?_, fun e0 => ?_⟩
  · exact ⟨rfl, by unfold F_X11_canTurn; rw [if_pos e0]⟩
  · refine ⟨fun e1 => ?_, fun e1 => ?_⟩
    · exact ⟨rfl, by unfold F_X11_canTurn; rw [if_neg e0, if_pos e1]⟩
    · refine ⟨fun e2 => ?_, fun e2 => ?_⟩
      · exact ⟨rfl, by unfold F_X11_canTurn; rw [if_neg e0, if_neg e1, if_pos e2]⟩
      · refine ⟨fun e3 => ?_, fun e3 => ?_⟩
        · exact ⟨rfl, by unfold F_X11_canTurn; rw [if_neg e0, if_neg e1, if_neg e2, if_pos e3]⟩
        · refine ⟨fun e4 => ?_, fun e4 => ?_⟩
          · exact ⟨rfl, by unfold F_X11_canTurn; rw [if_neg e0, if_neg e1, if_neg e2, if_neg e3, if_pos e4]⟩
          · refine ⟨fun e5 => ?_, fun e5 => ?_⟩
            · exact ⟨rfl, by unfold F_X11_canTurn; rw [if_neg e0, if_neg e1, if_neg e2, if_neg e3, if_neg e4, if_neg e5]⟩
            · exact ⟨rfl, by unfold F_X11_canTurn; rw [if_neg e0, if_neg e1, if_neg e2, if_neg e3, if_neg e4, if_pos e5]⟩
theorem p_X11_canTurn {s : ST} {p : Int} : RA s → R32 p → q_met mX11_canTurn (qs layM s) [.int (Int32.ofInt p)] (fun σ r => (F_X11_canTurn s p = 0 ∨ F_X11_canTurn s p = 1) ∧ σ = qs layM s ∧ r = some (.int (Int32.ofInt (F_X11_canTurn s p)))) := fun hA hrp => q_met.mono ((w_X11_canTurn).1 hA hrp) (by
  rintro _ _ ⟨s1, v1, rfl, h1, h2, rfl, rfl, rfl⟩
  exact ⟨h2, rfl, rfl⟩)
theorem n_X11_canTurn {s : ST} {p : Int} : ¬ F_X11_canTurn s p = 0 ↔ (p = 6 ∨ (p = 7 ∨ (p = 11 ∨ (p = 14 ∨ (p = 15 ∨ p = 5))))) := by
  unfold F_X11_canTurn
  first | omega | ((repeat' split) <;> simp_all) | ((repeat' split) <;> (simp_all <;> omega))
theorem eX11_kidBy_0 : decode cX11_kidBy 0 = .ok (.bipush 40, 2) := by decide +kernel
theorem eX11_kidBy_2 : decode cX11_kidBy 2 = .ok (.aload_n 0, 1) := by decide +kernel
theorem eX11_kidBy_3 : decode cX11_kidBy 3 = .ok (.getfield 321, 3) := by decide +kernel
theorem eX11_kidBy_6 : decode cX11_kidBy 6 = .ok (.imul, 1) := by decide +kernel
theorem eX11_kidBy_7 : decode cX11_kidBy 7 = .ok (.iload_n 1, 1) := by decide +kernel
theorem eX11_kidBy_8 : decode cX11_kidBy 8 = .ok (.iadd, 1) := by decide +kernel
theorem eX11_kidBy_9 : decode cX11_kidBy 9 = .ok (.istore 5, 2) := by decide +kernel
theorem eX11_kidBy_11 : decode cX11_kidBy 11 = .ok (.aload_n 0, 1) := by decide +kernel
theorem eX11_kidBy_12 : decode cX11_kidBy 12 = .ok (.getfield 33, 3) := by decide +kernel
theorem eX11_kidBy_15 : decode cX11_kidBy 15 = .ok (.iload 5, 2) := by decide +kernel
theorem eX11_kidBy_17 : decode cX11_kidBy 17 = .ok (.iaload, 1) := by decide +kernel
theorem eX11_kidBy_18 : decode cX11_kidBy 18 = .ok (.iconst 5, 1) := by decide +kernel
theorem eX11_kidBy_19 : decode cX11_kidBy 19 = .ok (.if_icmp .ne 17, 3) := by decide +kernel
theorem eX11_kidBy_22 : decode cX11_kidBy 22 = .ok (.iload_n 2, 1) := by decide +kernel
theorem eX11_kidBy_23 : decode cX11_kidBy 23 = .ok (.ifCond .ne 7, 3) := by decide +kernel
theorem eX11_kidBy_26 : decode cX11_kidBy 26 = .ok (.iconst 0, 1) := by decide +kernel
theorem eX11_kidBy_27 : decode cX11_kidBy 27 = .ok (.goto 12, 3) := by decide +kernel
theorem eX11_kidBy_30 : decode cX11_kidBy 30 = .ok (.iconst 3, 1) := by decide +kernel
theorem eX11_kidBy_31 : decode cX11_kidBy 31 = .ok (.iload_n 2, 1) := by decide +kernel
theorem eX11_kidBy_32 : decode cX11_kidBy 32 = .ok (.isub, 1) := by decide +kernel
theorem eX11_kidBy_33 : decode cX11_kidBy 33 = .ok (.goto 6, 3) := by decide +kernel
theorem eX11_kidBy_36 : decode cX11_kidBy 36 = .ok (.iconst 1, 1) := by decide +kernel
theorem eX11_kidBy_37 : decode cX11_kidBy 37 = .ok (.iload_n 2, 1) := by decide +kernel
theorem eX11_kidBy_38 : decode cX11_kidBy 38 = .ok (.isub, 1) := by decide +kernel
theorem eX11_kidBy_39 : decode cX11_kidBy 39 = .ok (.istore 6, 2) := by decide +kernel
theorem eX11_kidBy_41 : decode cX11_kidBy 41 = .ok (.aload_n 0, 1) := by decide +kernel
theorem eX11_kidBy_42 : decode cX11_kidBy 42 = .ok (.getfield 51, 3) := by decide +kernel
theorem eX11_kidBy_45 : decode cX11_kidBy 45 = .ok (.iconst 3, 1) := by decide +kernel
theorem eX11_kidBy_46 : decode cX11_kidBy 46 = .ok (.iload 5, 2) := by decide +kernel
theorem eX11_kidBy_48 : decode cX11_kidBy 48 = .ok (.imul, 1) := by decide +kernel
theorem eX11_kidBy_49 : decode cX11_kidBy 49 = .ok (.iload_n 1, 1) := by decide +kernel
theorem eX11_kidBy_50 : decode cX11_kidBy 50 = .ok (.iload_n 3, 1) := by decide +kernel
theorem eX11_kidBy_51 : decode cX11_kidBy 51 = .ok (.if_icmp .ne 13, 3) := by decide +kernel
theorem eX11_kidBy_54 : decode cX11_kidBy 54 = .ok (.iload 4, 2) := by decide +kernel
theorem eX11_kidBy_56 : decode cX11_kidBy 56 = .ok (.ifCond .ne 8, 3) := by decide +kernel
theorem eX11_kidBy_59 : decode cX11_kidBy 59 = .ok (.iload 6, 2) := by decide +kernel
theorem eX11_kidBy_61 : decode cX11_kidBy 61 = .ok (.goto 4, 3) := by decide +kernel
theorem eX11_kidBy_64 : decode cX11_kidBy 64 = .ok (.iload_n 2, 1) := by decide +kernel
theorem eX11_kidBy_65 : decode cX11_kidBy 65 = .ok (.iadd, 1) := by decide +kernel
theorem eX11_kidBy_66 : decode cX11_kidBy 66 = .ok (.iaload, 1) := by decide +kernel
theorem eX11_kidBy_67 : decode cX11_kidBy 67 = .ok (.ireturn, 1) := by decide +kernel
def C_X11_kidBy (s : ST) (p : Int) (q : Int) (u : Int) (w : Int) (Q : ST → Int → Prop) : Prop := bx <| RA s → R32 p → R32 q → R32 u → R32 w → q_met mX11_kidBy (qs layM s) [.ref 139, .int (Int32.ofInt p), .int (Int32.ofInt q), .int (Int32.ofInt u), .int (Int32.ofInt w)] (PI layM Q)
theorem C_X11_kidBy.mono {s : ST} {p : Int} {q : Int} {u : Int} {w : Int} {Q Q' : ST → Int → Prop} (h : C_X11_kidBy s p q u w Q) (hq : ∀ s v, Q s v → Q' s v) : C_X11_kidBy s p q u w Q' := ⟨fun hA hrp hrq hru hrw => q_met.mono (h.1 hA hrp hrq hru hrw) (fun _ _ => PI.mono hq), trivial⟩
set_option maxRecDepth 20000 in
theorem s_X11_kidBy {s : ST} {p : Int} {q : Int} {u : Int} {w : Int} {Q : ST → Int → Prop} (h : RA s → R32 p → R32 q → R32 u → R32 w → (R32 (40 * s.1 139 28) ∧ (R32 ((40 * s.1 139 28) + p) ∧ (((0 : Int) ≤ ((40 * s.1 139 28) + p) ∧ ((40 * s.1 139 28) + p) < 240) ∧ ((¬ s.1 146 ((40 * s.1 139 28) + p) = 5 → (R32 (1 - q) ∧ (R32 (3 * ((40 * s.1 139 28) + p)) ∧ ((¬ p = u → (R32 ((3 * ((40 * s.1 139 28) + p)) + q) ∧ (((0 : Int) ≤ ((3 * ((40 * s.1 139 28) + p)) + q) ∧ ((3 * ((40 * s.1 139 28) + p)) + q) < 720) ∧ Q s (s.1 152 ((3 * ((40 * s.1 139 28) + p)) + q))))) ∧ (p = u → ((¬ w = 0 → (R32 ((3 * ((40 * s.1 139 28) + p)) + q) ∧ (((0 : Int) ≤ ((3 * ((40 * s.1 139 28) + p)) + q) ∧ ((3 * ((40 * s.1 139 28) + p)) + q) < 720) ∧ Q s (s.1 152 ((3 * ((40 * s.1 139 28) + p)) + q))))) ∧ (w = 0 → (R32 ((3 * ((40 * s.1 139 28) + p)) + (1 - q)) ∧ (((0 : Int) ≤ ((3 * ((40 * s.1 139 28) + p)) + (1 - q)) ∧ ((3 * ((40 * s.1 139 28) + p)) + (1 - q)) < 720) ∧ Q s (s.1 152 ((3 * ((40 * s.1 139 28) + p)) + (1 - q)))))))))))) ∧ (s.1 146 ((40 * s.1 139 28) + p) = 5 → ((¬ q = 0 → (R32 (3 - q) ∧ (R32 (3 * ((40 * s.1 139 28) + p)) ∧ ((¬ p = u → (R32 ((3 * ((40 * s.1 139 28) + p)) + q) ∧ (((0 : Int) ≤ ((3 * ((40 * s.1 139 28) + p)) + q) ∧ ((3 * ((40 * s.1 139 28) + p)) + q) < 720) ∧ Q s (s.1 152 ((3 * ((40 * s.1 139 28) + p)) + q))))) ∧ (p = u → ((¬ w = 0 → (R32 ((3 * ((40 * s.1 139 28) + p)) + q) ∧ (((0 : Int) ≤ ((3 * ((40 * s.1 139 28) + p)) + q) ∧ ((3 * ((40 * s.1 139 28) + p)) + q) < 720) ∧ Q s (s.1 152 ((3 * ((40 * s.1 139 28) + p)) + q))))) ∧ (w = 0 → (R32 ((3 * ((40 * s.1 139 28) + p)) + (3 - q)) ∧ (((0 : Int) ≤ ((3 * ((40 * s.1 139 28) + p)) + (3 - q)) ∧ ((3 * ((40 * s.1 139 28) + p)) + (3 - q)) < 720) ∧ Q s (s.1 152 ((3 * ((40 * s.1 139 28) + p)) + (3 - q)))))))))))) ∧ (q = 0 → (R32 (3 * ((40 * s.1 139 28) + p)) ∧ ((¬ p = u → (R32 ((3 * ((40 * s.1 139 28) + p)) + q) ∧ (((0 : Int) ≤ ((3 * ((40 * s.1 139 28) + p)) + q) ∧ ((3 * ((40 * s.1 139 28) + p)) + q) < 720) ∧ Q s (s.1 152 ((3 * ((40 * s.1 139 28) + p)) + q))))) ∧ (p = u → ((¬ w = 0 → (R32 ((3 * ((40 * s.1 139 28) + p)) + q) ∧ (((0 : Int) ≤ ((3 * ((40 * s.1 139 28) + p)) + q) ∧ ((3 * ((40 * s.1 139 28) + p)) + q) < 720) ∧ Q s (s.1 152 ((3 * ((40 * s.1 139 28) + p)) + q))))) ∧ (w = 0 → (R32 ((3 * ((40 * s.1 139 28) + p)) + 0) ∧ (((0 : Int) ≤ ((3 * ((40 * s.1 139 28) + p)) + 0) ∧ ((3 * ((40 * s.1 139 28) + p)) + 0) < 720) ∧ Q s (s.1 152 ((3 * ((40 * s.1 139 28) + p)) + 0))))))))))))))))) : C_X11_kidBy s p q u w Q := by
  refine ⟨?_, trivial⟩
  intro hA hrp hrq hru hrw
  have h := h hA hrp hrq hru hrw
  refine q_enter (by decide) (Nat.le_of_ble_eq_true rfl) ?_
  refine q_bi (v := Int32.ofInt 40) eX11_kidBy_0 rfl ?_
  refine q_aload_n eX11_kidBy_2 rfl ?_
  refine q_getf (c := 11) (n := 0) (k := 28) (v := .int (Int32.ofInt (s.1 139 28))) eX11_kidBy_3 rfl (by decide) (by decide) fX11_321 rfl ?_
  refine z_imul eX11_kidBy_6 ?_
  have r1 := h.1
  have h := h.2
  refine q_iload_n eX11_kidBy_7 rfl ?_
  refine z_iadd eX11_kidBy_8 ?_
  have r2 := h.1
  have h := h.2
  refine q_istore eX11_kidBy_9 (Nat.le_of_ble_eq_true rfl) ?_
  refine q_aload_n eX11_kidBy_11 rfl ?_
  refine q_getR (c := 11) (n := 0) (k := 15) (a := 146) eX11_kidBy_12 rfl (by decide) (by decide) fX11_33 rfl rfl ?_
  refine q_iload eX11_kidBy_15 rfl ?_
  have f3 := h.1
  have h := h.2
  refine z_iald (n := 240) eX11_kidBy_17 rfl (ofz r2) f3 ?_
  refine q_topI (v := Int32.ofInt (s.1 146 ((40 * s.1 139 28) + p))) rfl ?_
  refine q_ic (v := Int32.ofInt 5) eX11_kidBy_18 rfl ?_
  refine q_cz_ne (tgt := 36) (a := s.1 146 ((40 * s.1 139 28) + p)) (b := 5) eX11_kidBy_19 (by decide) (ofz (hA _ _)) (ofz (r32l rfl)) (fun c19 => ?_) (fun c19 => ?_)
  · have h := h.1 c19
    refine q_ic (v := Int32.ofInt 1) eX11_kidBy_36 rfl ?_
    refine q_iload_n eX11_kidBy_37 rfl ?_
    refine z_isub eX11_kidBy_38 ?_
    have r4 := h.1
    have h := h.2
    refine q_istore eX11_kidBy_39 (Nat.le_of_ble_eq_true rfl) ?_
    refine q_aload_n eX11_kidBy_41 rfl ?_
    refine q_getR (c := 11) (n := 0) (k := 21) (a := 152) eX11_kidBy_42 rfl (by decide) (by decide) fX11_51 rfl rfl ?_
    refine q_ic (v := Int32.ofInt 3) eX11_kidBy_45 rfl ?_
    refine q_iload eX11_kidBy_46 rfl ?_
    refine z_imul eX11_kidBy_48 ?_
    have r5 := h.1
    have h := h.2
    refine q_iload_n eX11_kidBy_49 rfl ?_
    refine q_iload_n eX11_kidBy_50 rfl ?_
    refine q_cz_ne (tgt := 64) (a := p) (b := u) eX11_kidBy_51 (by decide) (ofz hrp) (ofz hru) (fun c51 => ?_) (fun c51 => ?_)
    · have h := h.1 c51
      refine q_iload_n eX11_kidBy_64 rfl ?_
      refine z_iadd eX11_kidBy_65 ?_
      have r6 := h.1
      have h := h.2
      have f7 := h.1
      have h := h.2
      refine z_iald (n := 720) eX11_kidBy_66 rfl (ofz r6) f7 ?_
      refine q_topI (v := Int32.ofInt (s.1 152 ((3 * ((40 * s.1 139 28) + p)) + q))) rfl ?_
      exact q_iret eX11_kidBy_67 rfl ⟨_, _, rfl, hA, (hA _ _), rfl, h⟩
    · have h := h.2 c51
      refine q_iload eX11_kidBy_54 rfl ?_
      refine q_iz_ne (tgt := 64) (a := w) eX11_kidBy_56 (by decide) (ofz hrw) (fun c56 => ?_) (fun c56 => ?_)
      · have h := h.1 c56
        refine q_iload_n eX11_kidBy_64 rfl ?_
        refine z_iadd eX11_kidBy_65 ?_
        have r8 := h.1
        have h := h.2
        have f9 := h.1
        have h := h.2
        refine z_iald (n := 720) eX11_kidBy_66 rfl (ofz r8) f9 ?_
        refine q_topI (v := Int32.ofInt (s.1 152 ((3 * ((40 * s.1 139 28) + p)) + q))) rfl ?_
        exact q_iret eX11_kidBy_67 rfl ⟨_, _, rfl, hA, (hA _ _), rfl, h⟩
      · have h := h.2 c56
        refine q_iload eX11_kidBy_59 rfl ?_
        refine q_goto (tgt := 65) eX11_kidBy_61 (by decide) ?_
        refine z_iadd eX11_kidBy_65 ?_
        have r10 := h.1
        have h := h.2
        have f11 := h.1
        have h := h.2
        refine z_iald (n := 720) eX11_kidBy_66 rfl (ofz r10) f11 ?_
        refine q_topI (v := Int32.ofInt (s.1 152 ((3 * ((40 * s.1 139 28) + p)) + (1 - q)))) rfl ?_
        exact q_iret eX11_kidBy_67 rfl ⟨_, _, rfl, hA, (hA _ _), rfl, h⟩
  · have h := h.2 c19
    refine q_iload_n eX11_kidBy_22 rfl ?_
    refine q_iz_ne (tgt := 30) (a := q) eX11_kidBy_23 (by decide) (ofz hrq) (fun c23 => ?_) (fun c23 => ?_)
    · have h := h.1 c23
      refine q_ic (v := Int32.ofInt 3) eX11_kidBy_30 rfl ?_
      refine q_iload_n eX11_kidBy_31 rfl ?_
      refine z_isub eX11_kidBy_32 ?_
      have r12 := h.1
      have h := h.2
      refine q_goto (tgt := 39) eX11_kidBy_33 (by decide) ?_
      refine q_istore eX11_kidBy_39 (Nat.le_of_ble_eq_true rfl) ?_
      refine q_aload_n eX11_kidBy_41 rfl ?_
      refine q_getR (c := 11) (n := 0) (k := 21) (a := 152) eX11_kidBy_42 rfl (by decide) (by decide) fX11_51 rfl rfl ?_
      refine q_ic (v := Int32.ofInt 3) eX11_kidBy_45 rfl ?_
      refine q_iload eX11_kidBy_46 rfl ?_
      refine z_imul eX11_kidBy_48 ?_
      have r13 := h.1
      have h := h.2
      refine q_iload_n eX11_kidBy_49 rfl ?_
      refine q_iload_n eX11_kidBy_50 rfl ?_
      refine q_cz_ne (tgt := 64) (a := p) (b := u) eX11_kidBy_51 (by decide) (ofz hrp) (ofz hru) (fun c51 => ?_) (fun c51 => ?_)
      · have h := h.1 c51
        refine q_iload_n eX11_kidBy_64 rfl ?_
        refine z_iadd eX11_kidBy_65 ?_
        have r14 := h.1
        have h := h.2
        have f15 := h.1
        have h := h.2
        refine z_iald (n := 720) eX11_kidBy_66 rfl (ofz r14) f15 ?_
        refine q_topI (v := Int32.ofInt (s.1 152 ((3 * ((40 * s.1 139 28) + p)) + q))) rfl ?_
        exact q_iret eX11_kidBy_67 rfl ⟨_, _, rfl, hA, (hA _ _), rfl, h⟩
      · have h := h.2 c51
        refine q_iload eX11_kidBy_54 rfl ?_
        refine q_iz_ne (tgt := 64) (a := w) eX11_kidBy_56 (by decide) (ofz hrw) (fun c56 => ?_) (fun c56 => ?_)
        · have h := h.1 c56
          refine q_iload_n eX11_kidBy_64 rfl ?_
          refine z_iadd eX11_kidBy_65 ?_
          have r16 := h.1
          have h := h.2
          have f17 := h.1
          have h := h.2
          refine z_iald (n := 720) eX11_kidBy_66 rfl (ofz r16) f17 ?_
          refine q_topI (v := Int32.ofInt (s.1 152 ((3 * ((40 * s.1 139 28) + p)) + q))) rfl ?_
          exact q_iret eX11_kidBy_67 rfl ⟨_, _, rfl, hA, (hA _ _), rfl, h⟩
        · have h := h.2 c56
          refine q_iload eX11_kidBy_59 rfl ?_
          refine q_goto (tgt := 65) eX11_kidBy_61 (by decide) ?_
          refine z_iadd eX11_kidBy_65 ?_
          have r18 := h.1
          have h := h.2
          have f19 := h.1
          have h := h.2
          refine z_iald (n := 720) eX11_kidBy_66 rfl (ofz r18) f19 ?_
          refine q_topI (v := Int32.ofInt (s.1 152 ((3 * ((40 * s.1 139 28) + p)) + (3 - q)))) rfl ?_
          exact q_iret eX11_kidBy_67 rfl ⟨_, _, rfl, hA, (hA _ _), rfl, h⟩
    · have h := h.2 c23
      refine q_ic (v := Int32.ofInt 0) eX11_kidBy_26 rfl ?_
      refine q_goto (tgt := 39) eX11_kidBy_27 (by decide) ?_
      refine q_istore eX11_kidBy_39 (Nat.le_of_ble_eq_true rfl) ?_
      refine q_aload_n eX11_kidBy_41 rfl ?_
      refine q_getR (c := 11) (n := 0) (k := 21) (a := 152) eX11_kidBy_42 rfl (by decide) (by decide) fX11_51 rfl rfl ?_
      refine q_ic (v := Int32.ofInt 3) eX11_kidBy_45 rfl ?_
      refine q_iload eX11_kidBy_46 rfl ?_
      refine z_imul eX11_kidBy_48 ?_
      have r20 := h.1
      have h := h.2
      refine q_iload_n eX11_kidBy_49 rfl ?_
      refine q_iload_n eX11_kidBy_50 rfl ?_
      refine q_cz_ne (tgt := 64) (a := p) (b := u) eX11_kidBy_51 (by decide) (ofz hrp) (ofz hru) (fun c51 => ?_) (fun c51 => ?_)
      · have h := h.1 c51
        refine q_iload_n eX11_kidBy_64 rfl ?_
        refine z_iadd eX11_kidBy_65 ?_
        have r21 := h.1
        have h := h.2
        have f22 := h.1
        have h := h.2
        refine z_iald (n := 720) eX11_kidBy_66 rfl (ofz r21) f22 ?_
        refine q_topI (v := Int32.ofInt (s.1 152 ((3 * ((40 * s.1 139 28) + p)) + q))) rfl ?_
        exact q_iret eX11_kidBy_67 rfl ⟨_, _, rfl, hA, (hA _ _), rfl, h⟩
      · have h := h.2 c51
        refine q_iload eX11_kidBy_54 rfl ?_
        refine q_iz_ne (tgt := 64) (a := w) eX11_kidBy_56 (by decide) (ofz hrw) (fun c56 => ?_) (fun c56 => ?_)
        · have h := h.1 c56
          refine q_iload_n eX11_kidBy_64 rfl ?_
          refine z_iadd eX11_kidBy_65 ?_
          have r23 := h.1
          have h := h.2
          have f24 := h.1
          have h := h.2
          refine z_iald (n := 720) eX11_kidBy_66 rfl (ofz r23) f24 ?_
          refine q_topI (v := Int32.ofInt (s.1 152 ((3 * ((40 * s.1 139 28) + p)) + q))) rfl ?_
          exact q_iret eX11_kidBy_67 rfl ⟨_, _, rfl, hA, (hA _ _), rfl, h⟩
        · have h := h.2 c56
          refine q_iload eX11_kidBy_59 rfl ?_
          refine q_goto (tgt := 65) eX11_kidBy_61 (by decide) ?_
          refine z_iadd eX11_kidBy_65 ?_
          have r25 := h.1
          have h := h.2
          have f26 := h.1
          have h := h.2
          refine z_iald (n := 720) eX11_kidBy_66 rfl (ofz r25) f26 ?_
          refine q_topI (v := Int32.ofInt (s.1 152 ((3 * ((40 * s.1 139 28) + p)) + 0))) rfl ?_
          exact q_iret eX11_kidBy_67 rfl ⟨_, _, rfl, hA, (hA _ _), rfl, h⟩
def F_X11_kidBy (s : ST) (p : Int) (q : Int) (u : Int) (w : Int) : Int := (if s.1 146 ((40 * s.1 139 28) + p) = 5 then (if q = 0 then (if p = u then (if w = 0 then s.1 152 ((3 * ((40 * s.1 139 28) + p)) + 0) else s.1 152 ((3 * ((40 * s.1 139 28) + p)) + q)) else s.1 152 ((3 * ((40 * s.1 139 28) + p)) + q)) else (if p = u then (if w = 0 then s.1 152 ((3 * ((40 * s.1 139 28) + p)) + (3 - q)) else s.1 152 ((3 * ((40 * s.1 139 28) + p)) + q)) else s.1 152 ((3 * ((40 * s.1 139 28) + p)) + q))) else (if p = u then (if w = 0 then s.1 152 ((3 * ((40 * s.1 139 28) + p)) + (1 - q)) else s.1 152 ((3 * ((40 * s.1 139 28) + p)) + q)) else s.1 152 ((3 * ((40 * s.1 139 28) + p)) + q)))
abbrev P_X11_kidBy (s : ST) (p : Int) (q : Int) (u : Int) (w : Int) : Prop := (R32 (40 * s.1 139 28) ∧ R32 ((40 * s.1 139 28) + p) ∧ ((0 : Int) ≤ ((40 * s.1 139 28) + p) ∧ ((40 * s.1 139 28) + p) < 240) ∧ ((¬ s.1 146 ((40 * s.1 139 28) + p) = 5 → (R32 (1 - q) ∧ R32 (3 * ((40 * s.1 139 28) + p)) ∧ ((¬ p = u → (R32 ((3 * ((40 * s.1 139 28) + p)) + q) ∧ ((0 : Int) ≤ ((3 * ((40 * s.1 139 28) + p)) + q) ∧ ((3 * ((40 * s.1 139 28) + p)) + q) < 720))) ∧ (p = u → ((¬ w = 0 → (R32 ((3 * ((40 * s.1 139 28) + p)) + q) ∧ ((0 : Int) ≤ ((3 * ((40 * s.1 139 28) + p)) + q) ∧ ((3 * ((40 * s.1 139 28) + p)) + q) < 720))) ∧ (w = 0 → (R32 ((3 * ((40 * s.1 139 28) + p)) + (1 - q)) ∧ ((0 : Int) ≤ ((3 * ((40 * s.1 139 28) + p)) + (1 - q)) ∧ ((3 * ((40 * s.1 139 28) + p)) + (1 - q)) < 720)))))))) ∧ (s.1 146 ((40 * s.1 139 28) + p) = 5 → ((¬ q = 0 → (R32 (3 - q) ∧ R32 (3 * ((40 * s.1 139 28) + p)) ∧ ((¬ p = u → (R32 ((3 * ((40 * s.1 139 28) + p)) + q) ∧ ((0 : Int) ≤ ((3 * ((40 * s.1 139 28) + p)) + q) ∧ ((3 * ((40 * s.1 139 28) + p)) + q) < 720))) ∧ (p = u → ((¬ w = 0 → (R32 ((3 * ((40 * s.1 139 28) + p)) + q) ∧ ((0 : Int) ≤ ((3 * ((40 * s.1 139 28) + p)) + q) ∧ ((3 * ((40 * s.1 139 28) + p)) + q) < 720))) ∧ (w = 0 → (R32 ((3 * ((40 * s.1 139 28) + p)) + (3 - q)) ∧ ((0 : Int) ≤ ((3 * ((40 * s.1 139 28) + p)) + (3 - q)) ∧ ((3 * ((40 * s.1 139 28) + p)) + (3 - q)) < 720)))))))) ∧ (q = 0 → (R32 (3 * ((40 * s.1 139 28) + p)) ∧ ((¬ p = u → (R32 ((3 * ((40 * s.1 139 28) + p)) + q) ∧ ((0 : Int) ≤ ((3 * ((40 * s.1 139 28) + p)) + q) ∧ ((3 * ((40 * s.1 139 28) + p)) + q) < 720))) ∧ (p = u → ((¬ w = 0 → (R32 ((3 * ((40 * s.1 139 28) + p)) + q) ∧ ((0 : Int) ≤ ((3 * ((40 * s.1 139 28) + p)) + q) ∧ ((3 * ((40 * s.1 139 28) + p)) + q) < 720))) ∧ (w = 0 → (R32 ((3 * ((40 * s.1 139 28) + p)) + 0) ∧ ((0 : Int) ≤ ((3 * ((40 * s.1 139 28) + p)) + 0) ∧ ((3 * ((40 * s.1 139 28) + p)) + 0) < 720))))))))))))
theorem w_X11_kidBy {s : ST} {p : Int} {q : Int} {u : Int} {w : Int} (h : P_X11_kidBy s p q u w) : C_X11_kidBy s p q u w (fun s' v => s' = s ∧ v = F_X11_kidBy s p q u w) := by
  refine s_X11_kidBy (fun hA hrp hrq hru hrw => ?_)
  unfold P_X11_kidBy at h
  refine ⟨h.1, ?_⟩
  have h := h.2
  refine ⟨h.1, ?_⟩
  have h := h.2
  refine ⟨h.1, ?_⟩
  have h := h.2
  refine ⟨fun e0 => ?_, fun e0 => ?_⟩
  · have h := h.1 e0
    refine ⟨h.1, ?_⟩
    have h := h.2
    refine ⟨h.1, ?_⟩
    have h := h.2
    refine ⟨fun e1 => ?_, fun e1 => ?_⟩
    · have h := h.1 e1
      refine ⟨h.1, ?_⟩
      have h := h.2
      refine ⟨h, ?_⟩
      exact ⟨rfl, by unfold F_X11_kidBy; rw [if_neg e0, if_neg e1]⟩
    · have h := h.2 e1
      refine ⟨fun e2 => ?_, fun e2 => ?_⟩
      · have h := h.1 e2
        refine ⟨h.1, ?_⟩
        have h := h.2
        refine ⟨h, ?_⟩
        exact ⟨rfl, by unfold F_X11_kidBy; rw [if_neg e0, if_pos e1, if_neg e2]⟩
      · have h := h.2 e2
        refine ⟨h.1, ?_⟩
        have h := h.2
        refine ⟨h, ?_⟩
        exact ⟨rfl, by unfold F_X11_kidBy; rw [if_neg e0, if_pos e1, if_pos e2]⟩
  · have h := h.2 e0
    refine ⟨fun e1 => ?_, fun e1 => ?_⟩
    · have h := h.1 e1
      refine ⟨h.1, ?_⟩
      have h := h.2
      refine ⟨h.1, ?_⟩
      have h := h.2
      refine ⟨fun e2 => ?_, fun e2 => ?_⟩
      · have h := h.1 e2
        refine ⟨h.1, ?_⟩
        have h := h.2
        refine ⟨h, ?_⟩
        exact ⟨rfl, by unfold F_X11_kidBy; rw [if_pos e0, if_neg e1, if_neg e2]⟩
      · have h := h.2 e2
        refine ⟨fun e3 => ?_, fun e3 => ?_⟩
        · have h := h.1 e3
          refine ⟨h.1, ?_⟩
          have h := h.2
          refine ⟨h, ?_⟩
          exact ⟨rfl, by unfold F_X11_kidBy; rw [if_pos e0, if_neg e1, if_pos e2, if_neg e3]⟩
        · have h := h.2 e3
          refine ⟨h.1, ?_⟩
          have h := h.2
          refine ⟨h, ?_⟩
          exact ⟨rfl, by unfold F_X11_kidBy; rw [if_pos e0, if_neg e1, if_pos e2, if_pos e3]⟩
    · have h := h.2 e1
      refine ⟨h.1, ?_⟩
      have h := h.2
      refine ⟨fun e2 => ?_, fun e2 => ?_⟩
      · have h := h.1 e2
        refine ⟨h.1, ?_⟩
        have h := h.2
        refine ⟨h, ?_⟩
        exact ⟨rfl, by unfold F_X11_kidBy; rw [if_pos e0, if_pos e1, if_neg e2]⟩
      · have h := h.2 e2
        refine ⟨fun e3 => ?_, fun e3 => ?_⟩
        · have h := h.1 e3
          refine ⟨h.1, ?_⟩
          have h := h.2
          refine ⟨h, ?_⟩
          exact ⟨rfl, by unfold F_X11_kidBy; rw [if_pos e0, if_pos e1, if_pos e2, if_neg e3]⟩
        · have h := h.2 e3
          refine ⟨h.1, ?_⟩
          have h := h.2
          refine ⟨h, ?_⟩
          exact ⟨rfl, by unfold F_X11_kidBy; rw [if_pos e0, if_pos e1, if_pos e2, if_pos e3]⟩
theorem p_X11_kidBy {s : ST} {p : Int} {q : Int} {u : Int} {w : Int} (h : P_X11_kidBy s p q u w) : RA s → R32 p → R32 q → R32 u → R32 w → q_met mX11_kidBy (qs layM s) [.ref 139, .int (Int32.ofInt p), .int (Int32.ofInt q), .int (Int32.ofInt u), .int (Int32.ofInt w)] (fun σ r => R32 (F_X11_kidBy s p q u w) ∧ σ = qs layM s ∧ r = some (.int (Int32.ofInt (F_X11_kidBy s p q u w)))) := fun hA hrp hrq hru hrw => q_met.mono ((w_X11_kidBy h).1 hA hrp hrq hru hrw) (by
  rintro _ _ ⟨s1, v1, rfl, h1, h2, rfl, rfl, rfl⟩
  exact ⟨h2, rfl, rfl⟩)
theorem eX11_takes_0 : decode cX11_takes 0 = .ok (.bipush 40, 2) := by decide +kernel
theorem eX11_takes_2 : decode cX11_takes 2 = .ok (.aload_n 0, 1) := by decide +kernel
theorem eX11_takes_3 : decode cX11_takes 3 = .ok (.getfield 321, 3) := by decide +kernel
theorem eX11_takes_6 : decode cX11_takes 6 = .ok (.imul, 1) := by decide +kernel
theorem eX11_takes_7 : decode cX11_takes 7 = .ok (.iload_n 1, 1) := by decide +kernel
theorem eX11_takes_8 : decode cX11_takes 8 = .ok (.iadd, 1) := by decide +kernel
theorem eX11_takes_9 : decode cX11_takes 9 = .ok (.istore_n 2, 1) := by decide +kernel
theorem eX11_takes_10 : decode cX11_takes 10 = .ok (.bipush 80, 2) := by decide +kernel
theorem eX11_takes_12 : decode cX11_takes 12 = .ok (.aload_n 0, 1) := by decide +kernel
theorem eX11_takes_13 : decode cX11_takes 13 = .ok (.getfield 20, 3) := by decide +kernel
theorem eX11_takes_16 : decode cX11_takes 16 = .ok (.iconst 2, 1) := by decide +kernel
theorem eX11_takes_17 : decode cX11_takes 17 = .ok (.iaload, 1) := by decide +kernel
theorem eX11_takes_18 : decode cX11_takes 18 = .ok (.iadd, 1) := by decide +kernel
theorem eX11_takes_19 : decode cX11_takes 19 = .ok (.istore_n 3, 1) := by decide +kernel
theorem eX11_takes_20 : decode cX11_takes 20 = .ok (.aload_n 0, 1) := by decide +kernel
theorem eX11_takes_21 : decode cX11_takes 21 = .ok (.getfield 146, 3) := by decide +kernel
theorem eX11_takes_24 : decode cX11_takes 24 = .ok (.iload_n 1, 1) := by decide +kernel
theorem eX11_takes_25 : decode cX11_takes 25 = .ok (.aload_n 0, 1) := by decide +kernel
theorem eX11_takes_26 : decode cX11_takes 26 = .ok (.getfield 20, 3) := by decide +kernel
theorem eX11_takes_29 : decode cX11_takes 29 = .ok (.iconst 2, 1) := by decide +kernel
theorem eX11_takes_30 : decode cX11_takes 30 = .ok (.iaload, 1) := by decide +kernel
theorem eX11_takes_31 : decode cX11_takes 31 = .ok (.iastore, 1) := by decide +kernel
theorem eX11_takes_32 : decode cX11_takes 32 = .ok (.aload_n 0, 1) := by decide +kernel
theorem eX11_takes_33 : decode cX11_takes 33 = .ok (.getfield 20, 3) := by decide +kernel
theorem eX11_takes_36 : decode cX11_takes 36 = .ok (.iconst 2, 1) := by decide +kernel
theorem eX11_takes_37 : decode cX11_takes 37 = .ok (.dup2, 1) := by decide +kernel
theorem eX11_takes_38 : decode cX11_takes 38 = .ok (.iaload, 1) := by decide +kernel
theorem eX11_takes_39 : decode cX11_takes 39 = .ok (.iconst 1, 1) := by decide +kernel
theorem eX11_takes_40 : decode cX11_takes 40 = .ok (.iadd, 1) := by decide +kernel
theorem eX11_takes_41 : decode cX11_takes 41 = .ok (.iastore, 1) := by decide +kernel
theorem eX11_takes_42 : decode cX11_takes 42 = .ok (.aload_n 0, 1) := by decide +kernel
theorem eX11_takes_43 : decode cX11_takes 43 = .ok (.getfield 33, 3) := by decide +kernel
theorem eX11_takes_46 : decode cX11_takes 46 = .ok (.iload_n 3, 1) := by decide +kernel
theorem eX11_takes_47 : decode cX11_takes 47 = .ok (.aload_n 0, 1) := by decide +kernel
theorem eX11_takes_48 : decode cX11_takes 48 = .ok (.getfield 33, 3) := by decide +kernel
theorem eX11_takes_51 : decode cX11_takes 51 = .ok (.iload_n 2, 1) := by decide +kernel
theorem eX11_takes_52 : decode cX11_takes 52 = .ok (.iaload, 1) := by decide +kernel
theorem eX11_takes_53 : decode cX11_takes 53 = .ok (.iastore, 1) := by decide +kernel
theorem eX11_takes_54 : decode cX11_takes 54 = .ok (.aload_n 0, 1) := by decide +kernel
theorem eX11_takes_55 : decode cX11_takes 55 = .ok (.getfield 36, 3) := by decide +kernel
theorem eX11_takes_58 : decode cX11_takes 58 = .ok (.iload_n 3, 1) := by decide +kernel
theorem eX11_takes_59 : decode cX11_takes 59 = .ok (.aload_n 0, 1) := by decide +kernel
theorem eX11_takes_60 : decode cX11_takes 60 = .ok (.getfield 36, 3) := by decide +kernel
theorem eX11_takes_63 : decode cX11_takes 63 = .ok (.iload_n 2, 1) := by decide +kernel
theorem eX11_takes_64 : decode cX11_takes 64 = .ok (.iaload, 1) := by decide +kernel
theorem eX11_takes_65 : decode cX11_takes 65 = .ok (.iastore, 1) := by decide +kernel
theorem eX11_takes_66 : decode cX11_takes 66 = .ok (.aload_n 0, 1) := by decide +kernel
theorem eX11_takes_67 : decode cX11_takes 67 = .ok (.getfield 39, 3) := by decide +kernel
theorem eX11_takes_70 : decode cX11_takes 70 = .ok (.iload_n 3, 1) := by decide +kernel
theorem eX11_takes_71 : decode cX11_takes 71 = .ok (.aload_n 0, 1) := by decide +kernel
theorem eX11_takes_72 : decode cX11_takes 72 = .ok (.getfield 39, 3) := by decide +kernel
theorem eX11_takes_75 : decode cX11_takes 75 = .ok (.iload_n 2, 1) := by decide +kernel
theorem eX11_takes_76 : decode cX11_takes 76 = .ok (.iaload, 1) := by decide +kernel
theorem eX11_takes_77 : decode cX11_takes 77 = .ok (.iastore, 1) := by decide +kernel
theorem eX11_takes_78 : decode cX11_takes 78 = .ok (.aload_n 0, 1) := by decide +kernel
theorem eX11_takes_79 : decode cX11_takes 79 = .ok (.getfield 42, 3) := by decide +kernel
theorem eX11_takes_82 : decode cX11_takes 82 = .ok (.iload_n 3, 1) := by decide +kernel
theorem eX11_takes_83 : decode cX11_takes 83 = .ok (.aload_n 0, 1) := by decide +kernel
theorem eX11_takes_84 : decode cX11_takes 84 = .ok (.getfield 42, 3) := by decide +kernel
theorem eX11_takes_87 : decode cX11_takes 87 = .ok (.iload_n 2, 1) := by decide +kernel
theorem eX11_takes_88 : decode cX11_takes 88 = .ok (.iaload, 1) := by decide +kernel
theorem eX11_takes_89 : decode cX11_takes 89 = .ok (.iastore, 1) := by decide +kernel
theorem eX11_takes_90 : decode cX11_takes 90 = .ok (.aload_n 0, 1) := by decide +kernel
theorem eX11_takes_91 : decode cX11_takes 91 = .ok (.getfield 70, 3) := by decide +kernel
theorem eX11_takes_94 : decode cX11_takes 94 = .ok (.iload_n 3, 1) := by decide +kernel
theorem eX11_takes_95 : decode cX11_takes 95 = .ok (.aload_n 0, 1) := by decide +kernel
theorem eX11_takes_96 : decode cX11_takes 96 = .ok (.getfield 70, 3) := by decide +kernel
theorem eX11_takes_99 : decode cX11_takes 99 = .ok (.iload_n 2, 1) := by decide +kernel
theorem eX11_takes_100 : decode cX11_takes 100 = .ok (.laload, 1) := by decide +kernel
theorem eX11_takes_101 : decode cX11_takes 101 = .ok (.lastore, 1) := by decide +kernel
theorem eX11_takes_102 : decode cX11_takes 102 = .ok (.aload_n 0, 1) := by decide +kernel
theorem eX11_takes_103 : decode cX11_takes 103 = .ok (.getfield 57, 3) := by decide +kernel
theorem eX11_takes_106 : decode cX11_takes 106 = .ok (.iload_n 3, 1) := by decide +kernel
theorem eX11_takes_107 : decode cX11_takes 107 = .ok (.aload_n 0, 1) := by decide +kernel
theorem eX11_takes_108 : decode cX11_takes 108 = .ok (.getfield 57, 3) := by decide +kernel
theorem eX11_takes_111 : decode cX11_takes 111 = .ok (.iload_n 2, 1) := by decide +kernel
theorem eX11_takes_112 : decode cX11_takes 112 = .ok (.iaload, 1) := by decide +kernel
theorem eX11_takes_113 : decode cX11_takes 113 = .ok (.iastore, 1) := by decide +kernel
theorem eX11_takes_114 : decode cX11_takes 114 = .ok (.aload_n 0, 1) := by decide +kernel
theorem eX11_takes_115 : decode cX11_takes 115 = .ok (.getfield 60, 3) := by decide +kernel
theorem eX11_takes_118 : decode cX11_takes 118 = .ok (.iload_n 3, 1) := by decide +kernel
theorem eX11_takes_119 : decode cX11_takes 119 = .ok (.aload_n 0, 1) := by decide +kernel
theorem eX11_takes_120 : decode cX11_takes 120 = .ok (.getfield 60, 3) := by decide +kernel
theorem eX11_takes_123 : decode cX11_takes 123 = .ok (.iload_n 2, 1) := by decide +kernel
theorem eX11_takes_124 : decode cX11_takes 124 = .ok (.iaload, 1) := by decide +kernel
theorem eX11_takes_125 : decode cX11_takes 125 = .ok (.iastore, 1) := by decide +kernel
theorem eX11_takes_126 : decode cX11_takes 126 = .ok (.aload_n 0, 1) := by decide +kernel
theorem eX11_takes_127 : decode cX11_takes 127 = .ok (.getfield 54, 3) := by decide +kernel
theorem eX11_takes_130 : decode cX11_takes 130 = .ok (.iload_n 3, 1) := by decide +kernel
theorem eX11_takes_131 : decode cX11_takes 131 = .ok (.aload_n 0, 1) := by decide +kernel
theorem eX11_takes_132 : decode cX11_takes 132 = .ok (.getfield 54, 3) := by decide +kernel
theorem eX11_takes_135 : decode cX11_takes 135 = .ok (.iload_n 2, 1) := by decide +kernel
theorem eX11_takes_136 : decode cX11_takes 136 = .ok (.iaload, 1) := by decide +kernel
theorem eX11_takes_137 : decode cX11_takes 137 = .ok (.ifCond .lt 14, 3) := by decide +kernel
theorem eX11_takes_140 : decode cX11_takes 140 = .ok (.aload_n 0, 1) := by decide +kernel
theorem eX11_takes_141 : decode cX11_takes 141 = .ok (.getfield 54, 3) := by decide +kernel
theorem eX11_takes_144 : decode cX11_takes 144 = .ok (.iload_n 2, 1) := by decide +kernel
theorem eX11_takes_145 : decode cX11_takes 145 = .ok (.iaload, 1) := by decide +kernel
theorem eX11_takes_146 : decode cX11_takes 146 = .ok (.bipush 100, 2) := by decide +kernel
theorem eX11_takes_148 : decode cX11_takes 148 = .ok (.if_icmp .lt 12, 3) := by decide +kernel
theorem eX11_takes_151 : decode cX11_takes 151 = .ok (.aload_n 0, 1) := by decide +kernel
theorem eX11_takes_152 : decode cX11_takes 152 = .ok (.getfield 54, 3) := by decide +kernel
theorem eX11_takes_155 : decode cX11_takes 155 = .ok (.iload_n 2, 1) := by decide +kernel
theorem eX11_takes_156 : decode cX11_takes 156 = .ok (.iaload, 1) := by decide +kernel
theorem eX11_takes_157 : decode cX11_takes 157 = .ok (.goto 14, 3) := by decide +kernel
theorem eX11_takes_160 : decode cX11_takes 160 = .ok (.aload_n 0, 1) := by decide +kernel
theorem eX11_takes_161 : decode cX11_takes 161 = .ok (.getfield 146, 3) := by decide +kernel
theorem eX11_takes_164 : decode cX11_takes 164 = .ok (.aload_n 0, 1) := by decide +kernel
theorem eX11_takes_165 : decode cX11_takes 165 = .ok (.getfield 54, 3) := by decide +kernel
theorem eX11_takes_168 : decode cX11_takes 168 = .ok (.iload_n 2, 1) := by decide +kernel
theorem eX11_takes_169 : decode cX11_takes 169 = .ok (.iaload, 1) := by decide +kernel
theorem eX11_takes_170 : decode cX11_takes 170 = .ok (.iaload, 1) := by decide +kernel
theorem eX11_takes_171 : decode cX11_takes 171 = .ok (.iastore, 1) := by decide +kernel
theorem eX11_takes_172 : decode cX11_takes 172 = .ok (.return_, 1) := by decide +kernel
def C_X11_takes (s : ST) (p : Int) (Q : ST → Prop) : Prop := bx <| RA s → R32 p → q_met mX11_takes (qs layM s) [.ref 139, .int (Int32.ofInt p)] (PV layM Q)
theorem C_X11_takes.mono {s : ST} {p : Int} {Q Q' : ST → Prop} (h : C_X11_takes s p Q) (hq : ∀ s, Q s → Q' s) : C_X11_takes s p Q' := ⟨fun hA hrp => q_met.mono (h.1 hA hrp) (fun _ _ => PV.mono hq), trivial⟩
def K_X11_takes_171 (s : ST) (t1 : Int) (t2 : Int) (Q : ST → Prop) : Prop := bx <| RA s → R32 t1 → R32 t2 → q_K mX11_takes (qs layM s) 0 0 171 [] [.int (Int32.ofInt t2), .int (Int32.ofInt t1), .ref 153] (q_fin mX11_takes (PV layM Q))
def K_X11_takes_151 (s : ST) (a2 : Int) (t1 : Int) (Q : ST → Prop) : Prop := bx <| RA s → R32 a2 → R32 t1 → q_K mX11_takes (qs layM s) 0 0 151 [(0, .ref 139), (2, .int (Int32.ofInt a2))] [.int (Int32.ofInt t1), .ref 153] (q_fin mX11_takes (PV layM Q))
set_option maxRecDepth 20000 in
theorem s_X11_takes_171 {s : ST} {t1 : Int} {t2 : Int} {Q : ST → Prop} (h : RA s → R32 t1 → R32 t2 → (((0 : Int) ≤ t1 ∧ t1 < 240) ∧ Q (ui s 153 t1 t2))) : K_X11_takes_171 s t1 t2 Q := by
  refine ⟨?_, trivial⟩
  intro hA hrt1 hrt2
  have h := h hA hrt1 hrt2
  have f1 := h.1
  have h := h.2
  refine z_iast (n := 240) eX11_takes_171 rfl (ofz hrt1) f1  ?_
  exact q_ret eX11_takes_172 rfl ⟨_, rfl, (ra_ui hA hrt2), rfl, h⟩
set_option maxRecDepth 20000 in
theorem s_X11_takes_151 {s : ST} {a2 : Int} {t1 : Int} {Q : ST → Prop} (h : RA s → R32 a2 → R32 t1 → (((0 : Int) ≤ a2 ∧ a2 < 240) ∧ K_X11_takes_171 s t1 (s.1 153 a2) Q)) : K_X11_takes_151 s a2 t1 Q := by
  refine ⟨?_, trivial⟩
  intro hA hra2 hrt1
  have h := h hA hra2 hrt1
  refine q_aload_n eX11_takes_151 rfl ?_
  refine q_getR (c := 11) (n := 0) (k := 22) (a := 153) eX11_takes_152 rfl (by decide) (by decide) fX11_54 rfl rfl ?_
  refine q_iload_n eX11_takes_155 rfl ?_
  have f1 := h.1
  have h := h.2
  refine z_iald (n := 240) eX11_takes_156 rfl (ofz hra2) f1 ?_
  refine q_topI (v := Int32.ofInt (s.1 153 a2)) rfl ?_
  refine q_goto (tgt := 171) eX11_takes_157 (by decide) ?_
  exact q_subL rfl (h.1 hA hrt1 (hA _ _))
set_option maxRecDepth 20000 in
theorem s_X11_takes {s : ST} {p : Int} {Q : ST → Prop} (h : RA s → R32 p → (R32 (40 * s.1 139 28) ∧ (R32 ((40 * s.1 139 28) + p) ∧ (((0 : Int) ≤ (2 : Int) ∧ (2 : Int) < 6) ∧ (R32 (80 + s.1 142 2) ∧ (((0 : Int) ≤ p ∧ p < 40) ∧ (R32 (s.1 142 2 + 1) ∧ (((0 : Int) ≤ ((40 * s.1 139 28) + p) ∧ ((40 * s.1 139 28) + p) < 240) ∧ (((0 : Int) ≤ (80 + s.1 142 2) ∧ (80 + s.1 142 2) < 240) ∧ ((s.1 153 ((40 * s.1 139 28) + p) < 0 → K_X11_takes_151 (ui (ui (uj (ui (ui (ui (ui (ui (ui s 182 p (s.1 142 2)) 142 2 (s.1 142 2 + 1)) 146 (80 + s.1 142 2) (s.1 146 ((40 * s.1 139 28) + p))) 147 (80 + s.1 142 2) (s.1 147 ((40 * s.1 139 28) + p))) 148 (80 + s.1 142 2) (s.1 148 ((40 * s.1 139 28) + p))) 149 (80 + s.1 142 2) (s.1 149 ((40 * s.1 139 28) + p))) 158 (80 + s.1 142 2) (s.2 158 ((40 * s.1 139 28) + p))) 154 (80 + s.1 142 2) (s.1 154 ((40 * s.1 139 28) + p))) 155 (80 + s.1 142 2) (s.1 155 ((40 * s.1 139 28) + p))) ((40 * s.1 139 28) + p) (80 + s.1 142 2) Q) ∧ (¬ s.1 153 ((40 * s.1 139 28) + p) < 0 → ((s.1 153 ((40 * s.1 139 28) + p) < 100 → (((0 : Int) ≤ s.1 153 ((40 * s.1 139 28) + p) ∧ s.1 153 ((40 * s.1 139 28) + p) < 40) ∧ K_X11_takes_171 (ui (ui (uj (ui (ui (ui (ui (ui (ui s 182 p (s.1 142 2)) 142 2 (s.1 142 2 + 1)) 146 (80 + s.1 142 2) (s.1 146 ((40 * s.1 139 28) + p))) 147 (80 + s.1 142 2) (s.1 147 ((40 * s.1 139 28) + p))) 148 (80 + s.1 142 2) (s.1 148 ((40 * s.1 139 28) + p))) 149 (80 + s.1 142 2) (s.1 149 ((40 * s.1 139 28) + p))) 158 (80 + s.1 142 2) (s.2 158 ((40 * s.1 139 28) + p))) 154 (80 + s.1 142 2) (s.1 154 ((40 * s.1 139 28) + p))) 155 (80 + s.1 142 2) (s.1 155 ((40 * s.1 139 28) + p))) (80 + s.1 142 2) ((ui (ui (uj (ui (ui (ui (ui (ui (ui s 182 p (s.1 142 2)) 142 2 (s.1 142 2 + 1)) 146 (80 + s.1 142 2) (s.1 146 ((40 * s.1 139 28) + p))) 147 (80 + s.1 142 2) (s.1 147 ((40 * s.1 139 28) + p))) 148 (80 + s.1 142 2) (s.1 148 ((40 * s.1 139 28) + p))) 149 (80 + s.1 142 2) (s.1 149 ((40 * s.1 139 28) + p))) 158 (80 + s.1 142 2) (s.2 158 ((40 * s.1 139 28) + p))) 154 (80 + s.1 142 2) (s.1 154 ((40 * s.1 139 28) + p))) 155 (80 + s.1 142 2) (s.1 155 ((40 * s.1 139 28) + p))).1 182 (s.1 153 ((40 * s.1 139 28) + p))) Q)) ∧ (¬ s.1 153 ((40 * s.1 139 28) + p) < 100 → K_X11_takes_151 (ui (ui (uj (ui (ui (ui (ui (ui (ui s 182 p (s.1 142 2)) 142 2 (s.1 142 2 + 1)) 146 (80 + s.1 142 2) (s.1 146 ((40 * s.1 139 28) + p))) 147 (80 + s.1 142 2) (s.1 147 ((40 * s.1 139 28) + p))) 148 (80 + s.1 142 2) (s.1 148 ((40 * s.1 139 28) + p))) 149 (80 + s.1 142 2) (s.1 149 ((40 * s.1 139 28) + p))) 158 (80 + s.1 142 2) (s.2 158 ((40 * s.1 139 28) + p))) 154 (80 + s.1 142 2) (s.1 154 ((40 * s.1 139 28) + p))) 155 (80 + s.1 142 2) (s.1 155 ((40 * s.1 139 28) + p))) ((40 * s.1 139 28) + p) (80 + s.1 142 2) Q))))))))))))) : C_X11_takes s p Q := by
  refine ⟨?_, trivial⟩
  intro hA hrp
  have h := h hA hrp
  refine q_enter (by decide) (Nat.le_of_ble_eq_true rfl) ?_
  refine q_bi (v := Int32.ofInt 40) eX11_takes_0 rfl ?_
  refine q_aload_n eX11_takes_2 rfl ?_
  refine q_getf (c := 11) (n := 0) (k := 28) (v := .int (Int32.ofInt (s.1 139 28))) eX11_takes_3 rfl (by decide) (by decide) fX11_321 rfl ?_
  refine z_imul eX11_takes_6 ?_
  have r1 := h.1
  have h := h.2
  refine q_iload_n eX11_takes_7 rfl ?_
  refine z_iadd eX11_takes_8 ?_
  have r2 := h.1
  have h := h.2
  refine q_istore_n eX11_takes_9 (Nat.le_of_ble_eq_true rfl) ?_
  refine q_bi (v := Int32.ofInt 80) eX11_takes_10 rfl ?_
  refine q_aload_n eX11_takes_12 rfl ?_
  refine q_getR (c := 11) (n := 0) (k := 11) (a := 142) eX11_takes_13 rfl (by decide) (by decide) fX11_20 rfl rfl ?_
  refine q_ic (v := Int32.ofInt 2) eX11_takes_16 rfl ?_
  have f3 := h.1
  have h := h.2
  refine z_iald (n := 6) eX11_takes_17 rfl (ofz (r32l rfl)) f3 ?_
  refine q_topI (v := Int32.ofInt (s.1 142 2)) rfl ?_
  refine z_iadd eX11_takes_18 ?_
  have r4 := h.1
  have h := h.2
  refine q_istore_n eX11_takes_19 (Nat.le_of_ble_eq_true rfl) ?_
  refine q_aload_n eX11_takes_20 rfl ?_
  refine q_getR (c := 11) (n := 0) (k := 64) (a := 182) eX11_takes_21 rfl (by decide) (by decide) fX11_146 rfl rfl ?_
  refine q_iload_n eX11_takes_24 rfl ?_
  refine q_aload_n eX11_takes_25 rfl ?_
  refine q_getR (c := 11) (n := 0) (k := 11) (a := 142) eX11_takes_26 rfl (by decide) (by decide) fX11_20 rfl rfl ?_
  refine q_ic (v := Int32.ofInt 2) eX11_takes_29 rfl ?_
  refine z_iald (n := 6) eX11_takes_30 rfl (ofz (r32l rfl)) f3 ?_
  refine q_topI (v := Int32.ofInt (s.1 142 2)) rfl ?_
  have f5 := h.1
  have h := h.2
  refine z_iast (n := 40) eX11_takes_31 rfl (ofz hrp) f5  ?_
  refine q_aload_n eX11_takes_32 rfl ?_
  refine q_getR (c := 11) (n := 0) (k := 11) (a := 142) eX11_takes_33 rfl (by decide) (by decide) fX11_20 rfl rfl ?_
  refine q_ic (v := Int32.ofInt 2) eX11_takes_36 rfl ?_
  refine q_dup2 eX11_takes_37 rfl rfl ?_
  refine z_iald (n := 6) eX11_takes_38 rfl (ofz (r32l rfl)) f3 ?_
  refine q_topI (v := Int32.ofInt (s.1 142 2)) rfl ?_
  refine q_ic (v := Int32.ofInt 1) eX11_takes_39 rfl ?_
  refine z_iadd eX11_takes_40 ?_
  have r6 := h.1
  have h := h.2
  refine z_iast (n := 6) eX11_takes_41 rfl (ofz (r32l rfl)) f3  ?_
  refine q_aload_n eX11_takes_42 rfl ?_
  refine q_getR (c := 11) (n := 0) (k := 15) (a := 146) eX11_takes_43 rfl (by decide) (by decide) fX11_33 rfl rfl ?_
  refine q_iload_n eX11_takes_46 rfl ?_
  refine q_aload_n eX11_takes_47 rfl ?_
  refine q_getR (c := 11) (n := 0) (k := 15) (a := 146) eX11_takes_48 rfl (by decide) (by decide) fX11_33 rfl rfl ?_
  refine q_iload_n eX11_takes_51 rfl ?_
  have f7 := h.1
  have h := h.2
  refine z_iald (n := 240) eX11_takes_52 rfl (ofz r2) f7 ?_
  refine q_topI (v := Int32.ofInt (s.1 146 ((40 * s.1 139 28) + p))) rfl ?_
  have f8 := h.1
  have h := h.2
  refine z_iast (n := 240) eX11_takes_53 rfl (ofz r4) f8  ?_
  refine q_aload_n eX11_takes_54 rfl ?_
  refine q_getR (c := 11) (n := 0) (k := 16) (a := 147) eX11_takes_55 rfl (by decide) (by decide) fX11_36 rfl rfl ?_
  refine q_iload_n eX11_takes_58 rfl ?_
  refine q_aload_n eX11_takes_59 rfl ?_
  refine q_getR (c := 11) (n := 0) (k := 16) (a := 147) eX11_takes_60 rfl (by decide) (by decide) fX11_36 rfl rfl ?_
  refine q_iload_n eX11_takes_63 rfl ?_
  refine z_iald (n := 240) eX11_takes_64 rfl (ofz r2) f7 ?_
  refine q_topI (v := Int32.ofInt (s.1 147 ((40 * s.1 139 28) + p))) rfl ?_
  refine z_iast (n := 240) eX11_takes_65 rfl (ofz r4) f8  ?_
  refine q_aload_n eX11_takes_66 rfl ?_
  refine q_getR (c := 11) (n := 0) (k := 17) (a := 148) eX11_takes_67 rfl (by decide) (by decide) fX11_39 rfl rfl ?_
  refine q_iload_n eX11_takes_70 rfl ?_
  refine q_aload_n eX11_takes_71 rfl ?_
  refine q_getR (c := 11) (n := 0) (k := 17) (a := 148) eX11_takes_72 rfl (by decide) (by decide) fX11_39 rfl rfl ?_
  refine q_iload_n eX11_takes_75 rfl ?_
  refine z_iald (n := 240) eX11_takes_76 rfl (ofz r2) f7 ?_
  refine q_topI (v := Int32.ofInt (s.1 148 ((40 * s.1 139 28) + p))) rfl ?_
  refine z_iast (n := 240) eX11_takes_77 rfl (ofz r4) f8  ?_
  refine q_aload_n eX11_takes_78 rfl ?_
  refine q_getR (c := 11) (n := 0) (k := 18) (a := 149) eX11_takes_79 rfl (by decide) (by decide) fX11_42 rfl rfl ?_
  refine q_iload_n eX11_takes_82 rfl ?_
  refine q_aload_n eX11_takes_83 rfl ?_
  refine q_getR (c := 11) (n := 0) (k := 18) (a := 149) eX11_takes_84 rfl (by decide) (by decide) fX11_42 rfl rfl ?_
  refine q_iload_n eX11_takes_87 rfl ?_
  refine z_iald (n := 240) eX11_takes_88 rfl (ofz r2) f7 ?_
  refine q_topI (v := Int32.ofInt (s.1 149 ((40 * s.1 139 28) + p))) rfl ?_
  refine z_iast (n := 240) eX11_takes_89 rfl (ofz r4) f8  ?_
  refine q_aload_n eX11_takes_90 rfl ?_
  refine q_getR (c := 11) (n := 0) (k := 27) (a := 158) eX11_takes_91 rfl (by decide) (by decide) fX11_70 rfl rfl ?_
  refine q_iload_n eX11_takes_94 rfl ?_
  refine q_aload_n eX11_takes_95 rfl ?_
  refine q_getR (c := 11) (n := 0) (k := 27) (a := 158) eX11_takes_96 rfl (by decide) (by decide) fX11_70 rfl rfl ?_
  refine q_iload_n eX11_takes_99 rfl ?_
  refine z_lald (n := 240) eX11_takes_100 rfl (ofz r2) f7 ?_
  refine q_topL (v := s.2 158 ((40 * s.1 139 28) + p)) rfl ?_
  refine z_last (n := 240) eX11_takes_101 rfl (ofz r4) f8  ?_
  refine q_aload_n eX11_takes_102 rfl ?_
  refine q_getR (c := 11) (n := 0) (k := 23) (a := 154) eX11_takes_103 rfl (by decide) (by decide) fX11_57 rfl rfl ?_
  refine q_iload_n eX11_takes_106 rfl ?_
  refine q_aload_n eX11_takes_107 rfl ?_
  refine q_getR (c := 11) (n := 0) (k := 23) (a := 154) eX11_takes_108 rfl (by decide) (by decide) fX11_57 rfl rfl ?_
  refine q_iload_n eX11_takes_111 rfl ?_
  refine z_iald (n := 240) eX11_takes_112 rfl (ofz r2) f7 ?_
  refine q_topI (v := Int32.ofInt (s.1 154 ((40 * s.1 139 28) + p))) rfl ?_
  refine z_iast (n := 240) eX11_takes_113 rfl (ofz r4) f8  ?_
  refine q_aload_n eX11_takes_114 rfl ?_
  refine q_getR (c := 11) (n := 0) (k := 24) (a := 155) eX11_takes_115 rfl (by decide) (by decide) fX11_60 rfl rfl ?_
  refine q_iload_n eX11_takes_118 rfl ?_
  refine q_aload_n eX11_takes_119 rfl ?_
  refine q_getR (c := 11) (n := 0) (k := 24) (a := 155) eX11_takes_120 rfl (by decide) (by decide) fX11_60 rfl rfl ?_
  refine q_iload_n eX11_takes_123 rfl ?_
  refine z_iald (n := 240) eX11_takes_124 rfl (ofz r2) f7 ?_
  refine q_topI (v := Int32.ofInt (s.1 155 ((40 * s.1 139 28) + p))) rfl ?_
  refine z_iast (n := 240) eX11_takes_125 rfl (ofz r4) f8  ?_
  refine q_aload_n eX11_takes_126 rfl ?_
  refine q_getR (c := 11) (n := 0) (k := 22) (a := 153) eX11_takes_127 rfl (by decide) (by decide) fX11_54 rfl rfl ?_
  refine q_iload_n eX11_takes_130 rfl ?_
  refine q_aload_n eX11_takes_131 rfl ?_
  refine q_getR (c := 11) (n := 0) (k := 22) (a := 153) eX11_takes_132 rfl (by decide) (by decide) fX11_54 rfl rfl ?_
  refine q_iload_n eX11_takes_135 rfl ?_
  refine z_iald (n := 240) eX11_takes_136 rfl (ofz r2) f7 ?_
  refine q_topI (v := Int32.ofInt (s.1 153 ((40 * s.1 139 28) + p))) rfl ?_
  refine q_iz_lt (tgt := 151) (a := s.1 153 ((40 * s.1 139 28) + p)) eX11_takes_137 (by decide) (ofz (hA _ _)) (fun c137 => ?_) (fun c137 => ?_)
  · have h := h.1 c137
    exact q_subL rfl (h.1 (ra_ui (ra_ui (ra_uj (ra_ui (ra_ui (ra_ui (ra_ui (ra_ui (ra_ui hA (hA _ _)) r6) (hA _ _)) (hA _ _)) (hA _ _)) (hA _ _))) (hA _ _)) (hA _ _)) r2 r4)
  · have h := h.2 c137
    refine q_aload_n eX11_takes_140 rfl ?_
    refine q_getR (c := 11) (n := 0) (k := 22) (a := 153) eX11_takes_141 rfl (by decide) (by decide) fX11_54 rfl rfl ?_
    refine q_iload_n eX11_takes_144 rfl ?_
    refine z_iald (n := 240) eX11_takes_145 rfl (ofz r2) f7 ?_
    refine q_topI (v := Int32.ofInt (s.1 153 ((40 * s.1 139 28) + p))) rfl ?_
    refine q_bi (v := Int32.ofInt 100) eX11_takes_146 rfl ?_
    refine q_cz_lt (tgt := 160) (a := s.1 153 ((40 * s.1 139 28) + p)) (b := 100) eX11_takes_148 (by decide) (ofz (hA _ _)) (ofz (r32l rfl)) (fun c148 => ?_) (fun c148 => ?_)
    · have h := h.1 c148
      refine q_aload_n eX11_takes_160 rfl ?_
      refine q_getR (c := 11) (n := 0) (k := 64) (a := 182) eX11_takes_161 rfl (by decide) (by decide) fX11_146 rfl rfl ?_
      refine q_aload_n eX11_takes_164 rfl ?_
      refine q_getR (c := 11) (n := 0) (k := 22) (a := 153) eX11_takes_165 rfl (by decide) (by decide) fX11_54 rfl rfl ?_
      refine q_iload_n eX11_takes_168 rfl ?_
      refine z_iald (n := 240) eX11_takes_169 rfl (ofz r2) f7 ?_
      refine q_topI (v := Int32.ofInt (s.1 153 ((40 * s.1 139 28) + p))) rfl ?_
      have f9 := h.1
      have h := h.2
      refine z_iald (n := 40) eX11_takes_170 rfl (ofz (hA _ _)) f9 ?_
      refine q_topI (v := Int32.ofInt ((ui (ui (uj (ui (ui (ui (ui (ui (ui s 182 p (s.1 142 2)) 142 2 (s.1 142 2 + 1)) 146 (80 + s.1 142 2) (s.1 146 ((40 * s.1 139 28) + p))) 147 (80 + s.1 142 2) (s.1 147 ((40 * s.1 139 28) + p))) 148 (80 + s.1 142 2) (s.1 148 ((40 * s.1 139 28) + p))) 149 (80 + s.1 142 2) (s.1 149 ((40 * s.1 139 28) + p))) 158 (80 + s.1 142 2) (s.2 158 ((40 * s.1 139 28) + p))) 154 (80 + s.1 142 2) (s.1 154 ((40 * s.1 139 28) + p))) 155 (80 + s.1 142 2) (s.1 155 ((40 * s.1 139 28) + p))).1 182 (s.1 153 ((40 * s.1 139 28) + p)))) rfl ?_
      exact q_subL rfl (h.1 (ra_ui (ra_ui (ra_uj (ra_ui (ra_ui (ra_ui (ra_ui (ra_ui (ra_ui hA (hA _ _)) r6) (hA _ _)) (hA _ _)) (hA _ _)) (hA _ _))) (hA _ _)) (hA _ _)) r4 ((ra_ui (ra_ui (ra_uj (ra_ui (ra_ui (ra_ui (ra_ui (ra_ui (ra_ui hA (hA _ _)) r6) (hA _ _)) (hA _ _)) (hA _ _)) (hA _ _))) (hA _ _)) (hA _ _)) _ _))
    · have h := h.2 c148
      exact q_subL rfl (h.1 (ra_ui (ra_ui (ra_uj (ra_ui (ra_ui (ra_ui (ra_ui (ra_ui (ra_ui hA (hA _ _)) r6) (hA _ _)) (hA _ _)) (hA _ _)) (hA _ _))) (hA _ _)) (hA _ _)) r2 r4)
theorem eX11_changed_0 : decode cX11_changed 0 = .ok (.bipush 80, 2) := by decide +kernel
theorem eX11_changed_2 : decode cX11_changed 2 = .ok (.aload_n 0, 1) := by decide +kernel
theorem eX11_changed_3 : decode cX11_changed 3 = .ok (.getfield 20, 3) := by decide +kernel
theorem eX11_changed_6 : decode cX11_changed 6 = .ok (.iconst 2, 1) := by decide +kernel
theorem eX11_changed_7 : decode cX11_changed 7 = .ok (.iaload, 1) := by decide +kernel
theorem eX11_changed_8 : decode cX11_changed 8 = .ok (.iadd, 1) := by decide +kernel
theorem eX11_changed_9 : decode cX11_changed 9 = .ok (.iconst 1, 1) := by decide +kernel
theorem eX11_changed_10 : decode cX11_changed 10 = .ok (.isub, 1) := by decide +kernel
theorem eX11_changed_11 : decode cX11_changed 11 = .ok (.istore_n 3, 1) := by decide +kernel
theorem eX11_changed_12 : decode cX11_changed 12 = .ok (.aload_n 0, 1) := by decide +kernel
theorem eX11_changed_13 : decode cX11_changed 13 = .ok (.getfield 36, 3) := by decide +kernel
theorem eX11_changed_16 : decode cX11_changed 16 = .ok (.iload_n 3, 1) := by decide +kernel
theorem eX11_changed_17 : decode cX11_changed 17 = .ok (.iload_n 1, 1) := by decide +kernel
theorem eX11_changed_18 : decode cX11_changed 18 = .ok (.iconst 2, 1) := by decide +kernel
theorem eX11_changed_19 : decode cX11_changed 19 = .ok (.if_icmp .ne 7, 3) := by decide +kernel
theorem eX11_changed_22 : decode cX11_changed 22 = .ok (.iconst 1, 1) := by decide +kernel
theorem eX11_changed_23 : decode cX11_changed 23 = .ok (.goto 4, 3) := by decide +kernel
theorem eX11_changed_26 : decode cX11_changed 26 = .ok (.iconst 0, 1) := by decide +kernel
theorem eX11_changed_27 : decode cX11_changed 27 = .ok (.iastore, 1) := by decide +kernel
theorem eX11_changed_28 : decode cX11_changed 28 = .ok (.iload_n 1, 1) := by decide +kernel
theorem eX11_changed_29 : decode cX11_changed 29 = .ok (.iconst 1, 1) := by decide +kernel
theorem eX11_changed_30 : decode cX11_changed 30 = .ok (.if_icmp .ne 49, 3) := by decide +kernel
theorem eX11_changed_33 : decode cX11_changed 33 = .ok (.aload_n 0, 1) := by decide +kernel
theorem eX11_changed_34 : decode cX11_changed 34 = .ok (.getfield 161, 3) := by decide +kernel
theorem eX11_changed_37 : decode cX11_changed 37 = .ok (.iload_n 2, 1) := by decide +kernel
theorem eX11_changed_38 : decode cX11_changed 38 = .ok (.iaload, 1) := by decide +kernel
theorem eX11_changed_39 : decode cX11_changed 39 = .ok (.istore 4, 2) := by decide +kernel
theorem eX11_changed_41 : decode cX11_changed 41 = .ok (.aload_n 0, 1) := by decide +kernel
theorem eX11_changed_42 : decode cX11_changed 42 = .ok (.getfield 70, 3) := by decide +kernel
theorem eX11_changed_45 : decode cX11_changed 45 = .ok (.iload_n 3, 1) := by decide +kernel
theorem eX11_changed_46 : decode cX11_changed 46 = .ok (.aload_n 0, 1) := by decide +kernel
theorem eX11_changed_47 : decode cX11_changed 47 = .ok (.iload 4, 2) := by decide +kernel
theorem eX11_changed_49 : decode cX11_changed 49 = .ok (.invokevirtual 523, 3) := by decide +kernel
theorem eX11_changed_52 : decode cX11_changed 52 = .ok (.lastore, 1) := by decide +kernel
theorem eX11_changed_53 : decode cX11_changed 53 = .ok (.aload_n 0, 1) := by decide +kernel
theorem eX11_changed_54 : decode cX11_changed 54 = .ok (.getfield 54, 3) := by decide +kernel
theorem eX11_changed_57 : decode cX11_changed 57 = .ok (.iload_n 3, 1) := by decide +kernel
theorem eX11_changed_58 : decode cX11_changed 58 = .ok (.iload 4, 2) := by decide +kernel
theorem eX11_changed_60 : decode cX11_changed 60 = .ok (.bipush 100, 2) := by decide +kernel
theorem eX11_changed_62 : decode cX11_changed 62 = .ok (.if_icmp .lt 8, 3) := by decide +kernel
theorem eX11_changed_65 : decode cX11_changed 65 = .ok (.iload 4, 2) := by decide +kernel
theorem eX11_changed_67 : decode cX11_changed 67 = .ok (.goto 10, 3) := by decide +kernel
theorem eX11_changed_70 : decode cX11_changed 70 = .ok (.aload_n 0, 1) := by decide +kernel
theorem eX11_changed_71 : decode cX11_changed 71 = .ok (.getfield 146, 3) := by decide +kernel
theorem eX11_changed_74 : decode cX11_changed 74 = .ok (.iload 4, 2) := by decide +kernel
theorem eX11_changed_76 : decode cX11_changed 76 = .ok (.iaload, 1) := by decide +kernel
theorem eX11_changed_77 : decode cX11_changed 77 = .ok (.iastore, 1) := by decide +kernel
theorem eX11_changed_78 : decode cX11_changed 78 = .ok (.return_, 1) := by decide +kernel
theorem eX11_changed_79 : decode cX11_changed 79 = .ok (.aload_n 0, 1) := by decide +kernel
theorem eX11_changed_80 : decode cX11_changed 80 = .ok (.getfield 54, 3) := by decide +kernel
theorem eX11_changed_83 : decode cX11_changed 83 = .ok (.iload_n 3, 1) := by decide +kernel
theorem eX11_changed_84 : decode cX11_changed 84 = .ok (.iconst (-1), 1) := by decide +kernel
theorem eX11_changed_85 : decode cX11_changed 85 = .ok (.iastore, 1) := by decide +kernel
theorem eX11_changed_86 : decode cX11_changed 86 = .ok (.aload_n 0, 1) := by decide +kernel
theorem eX11_changed_87 : decode cX11_changed 87 = .ok (.getfield 33, 3) := by decide +kernel
theorem eX11_changed_90 : decode cX11_changed 90 = .ok (.iload_n 3, 1) := by decide +kernel
theorem eX11_changed_91 : decode cX11_changed 91 = .ok (.iload_n 1, 1) := by decide +kernel
theorem eX11_changed_92 : decode cX11_changed 92 = .ok (.iconst 2, 1) := by decide +kernel
theorem eX11_changed_93 : decode cX11_changed 93 = .ok (.if_icmp .ne 7, 3) := by decide +kernel
theorem eX11_changed_96 : decode cX11_changed 96 = .ok (.iconst 1, 1) := by decide +kernel
theorem eX11_changed_97 : decode cX11_changed 97 = .ok (.goto 14, 3) := by decide +kernel
theorem eX11_changed_100 : decode cX11_changed 100 = .ok (.iload_n 1, 1) := by decide +kernel
theorem eX11_changed_101 : decode cX11_changed 101 = .ok (.iconst 3, 1) := by decide +kernel
theorem eX11_changed_102 : decode cX11_changed 102 = .ok (.if_icmp .ne 7, 3) := by decide +kernel
theorem eX11_changed_105 : decode cX11_changed 105 = .ok (.iconst 0, 1) := by decide +kernel
theorem eX11_changed_106 : decode cX11_changed 106 = .ok (.goto 5, 3) := by decide +kernel
theorem eX11_changed_109 : decode cX11_changed 109 = .ok (.bipush 10, 2) := by decide +kernel
theorem eX11_changed_111 : decode cX11_changed 111 = .ok (.iastore, 1) := by decide +kernel
theorem eX11_changed_112 : decode cX11_changed 112 = .ok (.iload_n 1, 1) := by decide +kernel
theorem eX11_changed_113 : decode cX11_changed 113 = .ok (.iconst 4, 1) := by decide +kernel
theorem eX11_changed_114 : decode cX11_changed 114 = .ok (.if_icmp .ne 10, 3) := by decide +kernel
theorem eX11_changed_117 : decode cX11_changed 117 = .ok (.aload_n 0, 1) := by decide +kernel
theorem eX11_changed_118 : decode cX11_changed 118 = .ok (.getfield 39, 3) := by decide +kernel
theorem eX11_changed_121 : decode cX11_changed 121 = .ok (.iload_n 3, 1) := by decide +kernel
theorem eX11_changed_122 : decode cX11_changed 122 = .ok (.iconst 0, 1) := by decide +kernel
theorem eX11_changed_123 : decode cX11_changed 123 = .ok (.iastore, 1) := by decide +kernel
theorem eX11_changed_124 : decode cX11_changed 124 = .ok (.return_, 1) := by decide +kernel
def C_X11_changed (s : ST) (p : Int) (q : Int) (Q : ST → Prop) : Prop := bx <| RA s → R32 p → R32 q → q_met mX11_changed (qs layM s) [.ref 139, .int (Int32.ofInt p), .int (Int32.ofInt q)] (PV layM Q)
theorem C_X11_changed.mono {s : ST} {p : Int} {q : Int} {Q Q' : ST → Prop} (h : C_X11_changed s p q Q) (hq : ∀ s, Q s → Q' s) : C_X11_changed s p q Q' := ⟨fun hA hrp hrq => q_met.mono (h.1 hA hrp hrq) (fun _ _ => PV.mono hq), trivial⟩
def K_X11_changed_111 (s : ST) (a1 : Int) (a3 : Int) (t1 : Int) (t2 : Int) (Q : ST → Prop) : Prop := bx <| RA s → R32 a1 → R32 a3 → R32 t1 → R32 t2 → q_K mX11_changed (qs layM s) 0 0 111 [(0, .ref 139), (1, .int (Int32.ofInt a1)), (3, .int (Int32.ofInt a3))] [.int (Int32.ofInt t2), .int (Int32.ofInt t1), .ref 146] (q_fin mX11_changed (PV layM Q))
def K_X11_changed_77 (s : ST) (t1 : Int) (t2 : Int) (Q : ST → Prop) : Prop := bx <| RA s → R32 t1 → R32 t2 → q_K mX11_changed (qs layM s) 0 0 77 [] [.int (Int32.ofInt t2), .int (Int32.ofInt t1), .ref 153] (q_fin mX11_changed (PV layM Q))
def K_X11_changed_27 (s : ST) (a1 : Int) (a2 : Int) (a3 : Int) (t1 : Int) (t2 : Int) (Q : ST → Prop) : Prop := bx <| RA s → R32 a1 → R32 a2 → R32 a3 → R32 t1 → R32 t2 → q_K mX11_changed (qs layM s) 0 0 27 [(0, .ref 139), (1, .int (Int32.ofInt a1)), (2, .int (Int32.ofInt a2)), (3, .int (Int32.ofInt a3))] [.int (Int32.ofInt t2), .int (Int32.ofInt t1), .ref 147] (q_fin mX11_changed (PV layM Q))
set_option maxRecDepth 20000 in
theorem s_X11_changed_111 {s : ST} {a1 : Int} {a3 : Int} {t1 : Int} {t2 : Int} {Q : ST → Prop} (h : RA s → R32 a1 → R32 a3 → R32 t1 → R32 t2 → (((0 : Int) ≤ t1 ∧ t1 < 240) ∧ ((¬ a1 = 4 → Q (ui s 146 t1 t2)) ∧ (a1 = 4 → (((0 : Int) ≤ a3 ∧ a3 < 240) ∧ Q (ui (ui s 146 t1 t2) 148 a3 0)))))) : K_X11_changed_111 s a1 a3 t1 t2 Q := by
  refine ⟨?_, trivial⟩
  intro hA hra1 hra3 hrt1 hrt2
  have h := h hA hra1 hra3 hrt1 hrt2
  have f1 := h.1
  have h := h.2
  refine z_iast (n := 240) eX11_changed_111 rfl (ofz hrt1) f1  ?_
  refine q_iload_n eX11_changed_112 rfl ?_
  refine q_ic (v := Int32.ofInt 4) eX11_changed_113 rfl ?_
  refine q_cz_ne (tgt := 124) (a := a1) (b := 4) eX11_changed_114 (by decide) (ofz hra1) (ofz (r32l rfl)) (fun c114 => ?_) (fun c114 => ?_)
  · have h := h.1 c114
    exact q_ret eX11_changed_124 rfl ⟨_, rfl, (ra_ui hA hrt2), rfl, h⟩
  · have h := h.2 c114
    refine q_aload_n eX11_changed_117 rfl ?_
    refine q_getR (c := 11) (n := 0) (k := 17) (a := 148) eX11_changed_118 rfl (by decide) (by decide) fX11_39 rfl rfl ?_
    refine q_iload_n eX11_changed_121 rfl ?_
    refine q_ic (v := Int32.ofInt 0) eX11_changed_122 rfl ?_
    have f2 := h.1
    have h := h.2
    refine z_iast (n := 240) eX11_changed_123 rfl (ofz hra3) f2  ?_
    exact q_ret eX11_changed_124 rfl ⟨_, rfl, (ra_ui (ra_ui hA hrt2) (r32l rfl)), rfl, h⟩
set_option maxRecDepth 20000 in
theorem s_X11_changed_77 {s : ST} {t1 : Int} {t2 : Int} {Q : ST → Prop} (h : RA s → R32 t1 → R32 t2 → (((0 : Int) ≤ t1 ∧ t1 < 240) ∧ Q (ui s 153 t1 t2))) : K_X11_changed_77 s t1 t2 Q := by
  refine ⟨?_, trivial⟩
  intro hA hrt1 hrt2
  have h := h hA hrt1 hrt2
  have f1 := h.1
  have h := h.2
  refine z_iast (n := 240) eX11_changed_77 rfl (ofz hrt1) f1  ?_
  exact q_ret eX11_changed_78 rfl ⟨_, rfl, (ra_ui hA hrt2), rfl, h⟩
set_option maxRecDepth 20000 in
theorem s_X11_changed_27 {s : ST} {a1 : Int} {a2 : Int} {a3 : Int} {t1 : Int} {t2 : Int} {Q : ST → Prop} (h : RA s → R32 a1 → R32 a2 → R32 a3 → R32 t1 → R32 t2 → (((0 : Int) ≤ t1 ∧ t1 < 240) ∧ ((¬ a1 = 1 → (((0 : Int) ≤ a3 ∧ a3 < 240) ∧ ((¬ a1 = 2 → ((¬ a1 = 3 → K_X11_changed_111 (ui (ui s 147 t1 t2) 153 a3 (-1)) a1 a3 a3 10 Q) ∧ (a1 = 3 → K_X11_changed_111 (ui (ui s 147 t1 t2) 153 a3 (-1)) a1 a3 a3 0 Q))) ∧ (a1 = 2 → K_X11_changed_111 (ui (ui s 147 t1 t2) 153 a3 (-1)) a1 a3 a3 1 Q)))) ∧ (a1 = 1 → (((0 : Int) ≤ a2 ∧ a2 < 40) ∧ (P_X11_wordOf (ui s 147 t1 t2) (s.1 187 a2) ∧ (((0 : Int) ≤ a3 ∧ a3 < 240) ∧ ((s.1 187 a2 < 100 → (((0 : Int) ≤ s.1 187 a2 ∧ s.1 187 a2 < 40) ∧ K_X11_changed_77 (uj (ui s 147 t1 t2) 158 a3 (F_X11_wordOf (ui s 147 t1 t2) (s.1 187 a2))) a3 (s.1 182 (s.1 187 a2)) Q)) ∧ (¬ s.1 187 a2 < 100 → K_X11_changed_77 (uj (ui s 147 t1 t2) 158 a3 (F_X11_wordOf (ui s 147 t1 t2) (s.1 187 a2))) a3 (s.1 187 a2) Q))))))))) : K_X11_changed_27 s a1 a2 a3 t1 t2 Q := by
  refine ⟨?_, trivial⟩
  intro hA hra1 hra2 hra3 hrt1 hrt2
  have h := h hA hra1 hra2 hra3 hrt1 hrt2
  have f1 := h.1
  have h := h.2
  refine z_iast (n := 240) eX11_changed_27 rfl (ofz hrt1) f1  ?_
  refine q_iload_n eX11_changed_28 rfl ?_
  refine q_ic (v := Int32.ofInt 1) eX11_changed_29 rfl ?_
  refine q_cz_ne (tgt := 79) (a := a1) (b := 1) eX11_changed_30 (by decide) (ofz hra1) (ofz (r32l rfl)) (fun c30 => ?_) (fun c30 => ?_)
  · have h := h.1 c30
    refine q_aload_n eX11_changed_79 rfl ?_
    refine q_getR (c := 11) (n := 0) (k := 22) (a := 153) eX11_changed_80 rfl (by decide) (by decide) fX11_54 rfl rfl ?_
    refine q_iload_n eX11_changed_83 rfl ?_
    refine q_ic (v := Int32.ofInt (-1)) eX11_changed_84 rfl ?_
    have f2 := h.1
    have h := h.2
    refine z_iast (n := 240) eX11_changed_85 rfl (ofz hra3) f2  ?_
    refine q_aload_n eX11_changed_86 rfl ?_
    refine q_getR (c := 11) (n := 0) (k := 15) (a := 146) eX11_changed_87 rfl (by decide) (by decide) fX11_33 rfl rfl ?_
    refine q_iload_n eX11_changed_90 rfl ?_
    refine q_iload_n eX11_changed_91 rfl ?_
    refine q_ic (v := Int32.ofInt 2) eX11_changed_92 rfl ?_
    refine q_cz_ne (tgt := 100) (a := a1) (b := 2) eX11_changed_93 (by decide) (ofz hra1) (ofz (r32l rfl)) (fun c93 => ?_) (fun c93 => ?_)
    · have h := h.1 c93
      refine q_iload_n eX11_changed_100 rfl ?_
      refine q_ic (v := Int32.ofInt 3) eX11_changed_101 rfl ?_
      refine q_cz_ne (tgt := 109) (a := a1) (b := 3) eX11_changed_102 (by decide) (ofz hra1) (ofz (r32l rfl)) (fun c102 => ?_) (fun c102 => ?_)
      · have h := h.1 c102
        refine q_bi (v := Int32.ofInt 10) eX11_changed_109 rfl ?_
        exact q_subL rfl (h.1 (ra_ui (ra_ui hA hrt2) (r32l rfl)) hra1 hra3 hra3 (r32l rfl))
      · have h := h.2 c102
        refine q_ic (v := Int32.ofInt 0) eX11_changed_105 rfl ?_
        refine q_goto (tgt := 111) eX11_changed_106 (by decide) ?_
        exact q_subL rfl (h.1 (ra_ui (ra_ui hA hrt2) (r32l rfl)) hra1 hra3 hra3 (r32l rfl))
    · have h := h.2 c93
      refine q_ic (v := Int32.ofInt 1) eX11_changed_96 rfl ?_
      refine q_goto (tgt := 111) eX11_changed_97 (by decide) ?_
      exact q_subL rfl (h.1 (ra_ui (ra_ui hA hrt2) (r32l rfl)) hra1 hra3 hra3 (r32l rfl))
  · have h := h.2 c30
    refine q_aload_n eX11_changed_33 rfl ?_
    refine q_getR (c := 11) (n := 0) (k := 69) (a := 187) eX11_changed_34 rfl (by decide) (by decide) fX11_161 rfl rfl ?_
    refine q_iload_n eX11_changed_37 rfl ?_
    have f3 := h.1
    have h := h.2
    refine z_iald (n := 40) eX11_changed_38 rfl (ofz hra2) f3 ?_
    refine q_topI (v := Int32.ofInt (s.1 187 a2)) rfl ?_
    refine q_istore eX11_changed_39 (Nat.le_of_ble_eq_true rfl) ?_
    refine q_aload_n eX11_changed_41 rfl ?_
    refine q_getR (c := 11) (n := 0) (k := 27) (a := 158) eX11_changed_42 rfl (by decide) (by decide) fX11_70 rfl rfl ?_
    refine q_iload_n eX11_changed_45 rfl ?_
    refine q_aload_n eX11_changed_46 rfl ?_
    refine q_iload eX11_changed_47 rfl ?_
    have f5 := h.1
    have h := h.2
    refine q_V1 (ci := 11) (n := 0) eX11_changed_49 DX11_wordOf lX11_523 rfl (by decide) rfl rfl rfl rfl (p_X11_wordOf f5 (ra_ui hA hrt2) (hA _ _)) ?_
    rintro _ _ ⟨rfl, rfl⟩
    have f6 := h.1
    have h := h.2
    refine z_last (n := 240) eX11_changed_52 rfl (ofz hra3) f6  ?_
    refine q_aload_n eX11_changed_53 rfl ?_
    refine q_getR (c := 11) (n := 0) (k := 22) (a := 153) eX11_changed_54 rfl (by decide) (by decide) fX11_54 rfl rfl ?_
    refine q_iload_n eX11_changed_57 rfl ?_
    refine q_iload eX11_changed_58 rfl ?_
    refine q_bi (v := Int32.ofInt 100) eX11_changed_60 rfl ?_
    refine q_cz_lt (tgt := 70) (a := s.1 187 a2) (b := 100) eX11_changed_62 (by decide) (ofz (hA _ _)) (ofz (r32l rfl)) (fun c62 => ?_) (fun c62 => ?_)
    · have h := h.1 c62
      refine q_aload_n eX11_changed_70 rfl ?_
      refine q_getR (c := 11) (n := 0) (k := 64) (a := 182) eX11_changed_71 rfl (by decide) (by decide) fX11_146 rfl rfl ?_
      refine q_iload eX11_changed_74 rfl ?_
      have f7 := h.1
      have h := h.2
      refine z_iald (n := 40) eX11_changed_76 rfl (ofz (hA _ _)) f7 ?_
      refine q_topI (v := Int32.ofInt (s.1 182 (s.1 187 a2))) rfl ?_
      exact q_subL rfl (h.1 (ra_uj (ra_ui hA hrt2)) hra3 (hA _ _))
    · have h := h.2 c62
      refine q_iload eX11_changed_65 rfl ?_
      refine q_goto (tgt := 77) eX11_changed_67 (by decide) ?_
      exact q_subL rfl (h.1 (ra_uj (ra_ui hA hrt2)) hra3 (hA _ _))
set_option maxRecDepth 20000 in
theorem s_X11_changed {s : ST} {p : Int} {q : Int} {Q : ST → Prop} (h : RA s → R32 p → R32 q → (((0 : Int) ≤ (2 : Int) ∧ (2 : Int) < 6) ∧ (R32 (80 + s.1 142 2) ∧ (R32 ((80 + s.1 142 2) - 1) ∧ ((¬ p = 2 → K_X11_changed_27 s p q ((80 + s.1 142 2) - 1) ((80 + s.1 142 2) - 1) 0 Q) ∧ (p = 2 → K_X11_changed_27 s p q ((80 + s.1 142 2) - 1) ((80 + s.1 142 2) - 1) 1 Q)))))) : C_X11_changed s p q Q := by
  refine ⟨?_, trivial⟩
  intro hA hrp hrq
  have h := h hA hrp hrq
  refine q_enter (by decide) (Nat.le_of_ble_eq_true rfl) ?_
  refine q_bi (v := Int32.ofInt 80) eX11_changed_0 rfl ?_
  refine q_aload_n eX11_changed_2 rfl ?_
  refine q_getR (c := 11) (n := 0) (k := 11) (a := 142) eX11_changed_3 rfl (by decide) (by decide) fX11_20 rfl rfl ?_
  refine q_ic (v := Int32.ofInt 2) eX11_changed_6 rfl ?_
  have f1 := h.1
  have h := h.2
  refine z_iald (n := 6) eX11_changed_7 rfl (ofz (r32l rfl)) f1 ?_
  refine q_topI (v := Int32.ofInt (s.1 142 2)) rfl ?_
  refine z_iadd eX11_changed_8 ?_
  have r2 := h.1
  have h := h.2
  refine q_ic (v := Int32.ofInt 1) eX11_changed_9 rfl ?_
  refine z_isub eX11_changed_10 ?_
  have r3 := h.1
  have h := h.2
  refine q_istore_n eX11_changed_11 (Nat.le_of_ble_eq_true rfl) ?_
  refine q_aload_n eX11_changed_12 rfl ?_
  refine q_getR (c := 11) (n := 0) (k := 16) (a := 147) eX11_changed_13 rfl (by decide) (by decide) fX11_36 rfl rfl ?_
  refine q_iload_n eX11_changed_16 rfl ?_
  refine q_iload_n eX11_changed_17 rfl ?_
  refine q_ic (v := Int32.ofInt 2) eX11_changed_18 rfl ?_
  refine q_cz_ne (tgt := 26) (a := p) (b := 2) eX11_changed_19 (by decide) (ofz hrp) (ofz (r32l rfl)) (fun c19 => ?_) (fun c19 => ?_)
  · have h := h.1 c19
    refine q_ic (v := Int32.ofInt 0) eX11_changed_26 rfl ?_
    exact q_subL rfl (h.1 hA hrp hrq r3 r3 (r32l rfl))
  · have h := h.2 c19
    refine q_ic (v := Int32.ofInt 1) eX11_changed_22 rfl ?_
    refine q_goto (tgt := 27) eX11_changed_23 (by decide) ?_
    exact q_subL rfl (h.1 hA hrp hrq r3 r3 (r32l rfl))
theorem eX11_layEnds_0 : decode cX11_layEnds 0 = .ok (.aload_n 0, 1) := by decide +kernel
theorem eX11_layEnds_1 : decode cX11_layEnds 1 = .ok (.getfield 20, 3) := by decide +kernel
theorem eX11_layEnds_4 : decode cX11_layEnds 4 = .ok (.iload_n 1, 1) := by decide +kernel
theorem eX11_layEnds_5 : decode cX11_layEnds 5 = .ok (.iaload, 1) := by decide +kernel
theorem eX11_layEnds_6 : decode cX11_layEnds 6 = .ok (.iconst 1, 1) := by decide +kernel
theorem eX11_layEnds_7 : decode cX11_layEnds 7 = .ok (.isub, 1) := by decide +kernel
theorem eX11_layEnds_8 : decode cX11_layEnds 8 = .ok (.istore_n 2, 1) := by decide +kernel
theorem eX11_layEnds_9 : decode cX11_layEnds 9 = .ok (.iload_n 2, 1) := by decide +kernel
theorem eX11_layEnds_10 : decode cX11_layEnds 10 = .ok (.ifCond .lt 65, 3) := by decide +kernel
theorem eX11_layEnds_13 : decode cX11_layEnds 13 = .ok (.bipush 40, 2) := by decide +kernel
theorem eX11_layEnds_15 : decode cX11_layEnds 15 = .ok (.iload_n 1, 1) := by decide +kernel
theorem eX11_layEnds_16 : decode cX11_layEnds 16 = .ok (.imul, 1) := by decide +kernel
theorem eX11_layEnds_17 : decode cX11_layEnds 17 = .ok (.iload_n 2, 1) := by decide +kernel
theorem eX11_layEnds_18 : decode cX11_layEnds 18 = .ok (.iadd, 1) := by decide +kernel
theorem eX11_layEnds_19 : decode cX11_layEnds 19 = .ok (.istore_n 3, 1) := by decide +kernel
theorem eX11_layEnds_20 : decode cX11_layEnds 20 = .ok (.aload_n 0, 1) := by decide +kernel
theorem eX11_layEnds_21 : decode cX11_layEnds 21 = .ok (.getfield 33, 3) := by decide +kernel
theorem eX11_layEnds_24 : decode cX11_layEnds 24 = .ok (.iload_n 3, 1) := by decide +kernel
theorem eX11_layEnds_25 : decode cX11_layEnds 25 = .ok (.iaload, 1) := by decide +kernel
theorem eX11_layEnds_26 : decode cX11_layEnds 26 = .ok (.invokestatic 365, 3) := by decide +kernel
theorem eX11_layEnds_29 : decode cX11_layEnds 29 = .ok (.istore 4, 2) := by decide +kernel
theorem eX11_layEnds_31 : decode cX11_layEnds 31 = .ok (.aload_n 0, 1) := by decide +kernel
theorem eX11_layEnds_32 : decode cX11_layEnds 32 = .ok (.getfield 45, 3) := by decide +kernel
theorem eX11_layEnds_35 : decode cX11_layEnds 35 = .ok (.iload_n 3, 1) := by decide +kernel
theorem eX11_layEnds_36 : decode cX11_layEnds 36 = .ok (.iload 4, 2) := by decide +kernel
theorem eX11_layEnds_38 : decode cX11_layEnds 38 = .ok (.ifCond .ne 7, 3) := by decide +kernel
theorem eX11_layEnds_41 : decode cX11_layEnds 41 = .ok (.iload_n 2, 1) := by decide +kernel
theorem eX11_layEnds_42 : decode cX11_layEnds 42 = .ok (.goto 26, 3) := by decide +kernel
theorem eX11_layEnds_45 : decode cX11_layEnds 45 = .ok (.aload_n 0, 1) := by decide +kernel
theorem eX11_layEnds_46 : decode cX11_layEnds 46 = .ok (.getfield 45, 3) := by decide +kernel
theorem eX11_layEnds_49 : decode cX11_layEnds 49 = .ok (.bipush 40, 2) := by decide +kernel
theorem eX11_layEnds_51 : decode cX11_layEnds 51 = .ok (.iload_n 1, 1) := by decide +kernel
theorem eX11_layEnds_52 : decode cX11_layEnds 52 = .ok (.imul, 1) := by decide +kernel
theorem eX11_layEnds_53 : decode cX11_layEnds 53 = .ok (.aload_n 0, 1) := by decide +kernel
theorem eX11_layEnds_54 : decode cX11_layEnds 54 = .ok (.getfield 51, 3) := by decide +kernel
theorem eX11_layEnds_57 : decode cX11_layEnds 57 = .ok (.iconst 3, 1) := by decide +kernel
theorem eX11_layEnds_58 : decode cX11_layEnds 58 = .ok (.iload_n 3, 1) := by decide +kernel
theorem eX11_layEnds_59 : decode cX11_layEnds 59 = .ok (.imul, 1) := by decide +kernel
theorem eX11_layEnds_60 : decode cX11_layEnds 60 = .ok (.iload 4, 2) := by decide +kernel
theorem eX11_layEnds_62 : decode cX11_layEnds 62 = .ok (.iadd, 1) := by decide +kernel
theorem eX11_layEnds_63 : decode cX11_layEnds 63 = .ok (.iconst 1, 1) := by decide +kernel
theorem eX11_layEnds_64 : decode cX11_layEnds 64 = .ok (.isub, 1) := by decide +kernel
theorem eX11_layEnds_65 : decode cX11_layEnds 65 = .ok (.iaload, 1) := by decide +kernel
theorem eX11_layEnds_66 : decode cX11_layEnds 66 = .ok (.iadd, 1) := by decide +kernel
theorem eX11_layEnds_67 : decode cX11_layEnds 67 = .ok (.iaload, 1) := by decide +kernel
theorem eX11_layEnds_68 : decode cX11_layEnds 68 = .ok (.iastore, 1) := by decide +kernel
theorem eX11_layEnds_69 : decode cX11_layEnds 69 = .ok (.iinc 2 (-1), 3) := by decide +kernel
theorem eX11_layEnds_72 : decode cX11_layEnds 72 = .ok (.goto (-63), 3) := by decide +kernel
theorem eX11_layEnds_75 : decode cX11_layEnds 75 = .ok (.iconst 0, 1) := by decide +kernel
theorem eX11_layEnds_76 : decode cX11_layEnds 76 = .ok (.istore_n 2, 1) := by decide +kernel
theorem eX11_layEnds_77 : decode cX11_layEnds 77 = .ok (.iconst 0, 1) := by decide +kernel
theorem eX11_layEnds_78 : decode cX11_layEnds 78 = .ok (.istore_n 3, 1) := by decide +kernel
theorem eX11_layEnds_79 : decode cX11_layEnds 79 = .ok (.iload_n 3, 1) := by decide +kernel
theorem eX11_layEnds_80 : decode cX11_layEnds 80 = .ok (.aload_n 0, 1) := by decide +kernel
theorem eX11_layEnds_81 : decode cX11_layEnds 81 = .ok (.getfield 20, 3) := by decide +kernel
theorem eX11_layEnds_84 : decode cX11_layEnds 84 = .ok (.iload_n 1, 1) := by decide +kernel
theorem eX11_layEnds_85 : decode cX11_layEnds 85 = .ok (.iaload, 1) := by decide +kernel
theorem eX11_layEnds_86 : decode cX11_layEnds 86 = .ok (.if_icmp .ge 78, 3) := by decide +kernel
theorem eX11_layEnds_89 : decode cX11_layEnds 89 = .ok (.aload_n 0, 1) := by decide +kernel
theorem eX11_layEnds_90 : decode cX11_layEnds 90 = .ok (.getfield 149, 3) := by decide +kernel
theorem eX11_layEnds_93 : decode cX11_layEnds 93 = .ok (.iload_n 2, 1) := by decide +kernel
theorem eX11_layEnds_94 : decode cX11_layEnds 94 = .ok (.iload_n 3, 1) := by decide +kernel
theorem eX11_layEnds_95 : decode cX11_layEnds 95 = .ok (.iastore, 1) := by decide +kernel
theorem eX11_layEnds_96 : decode cX11_layEnds 96 = .ok (.iinc 2 1, 3) := by decide +kernel
theorem eX11_layEnds_99 : decode cX11_layEnds 99 = .ok (.iload_n 2, 1) := by decide +kernel
theorem eX11_layEnds_100 : decode cX11_layEnds 100 = .ok (.ifCond .le 58, 3) := by decide +kernel
theorem eX11_layEnds_103 : decode cX11_layEnds 103 = .ok (.aload_n 0, 1) := by decide +kernel
theorem eX11_layEnds_104 : decode cX11_layEnds 104 = .ok (.getfield 45, 3) := by decide +kernel
theorem eX11_layEnds_107 : decode cX11_layEnds 107 = .ok (.bipush 40, 2) := by decide +kernel
theorem eX11_layEnds_109 : decode cX11_layEnds 109 = .ok (.iload_n 1, 1) := by decide +kernel
theorem eX11_layEnds_110 : decode cX11_layEnds 110 = .ok (.imul, 1) := by decide +kernel
theorem eX11_layEnds_111 : decode cX11_layEnds 111 = .ok (.aload_n 0, 1) := by decide +kernel
theorem eX11_layEnds_112 : decode cX11_layEnds 112 = .ok (.getfield 149, 3) := by decide +kernel
theorem eX11_layEnds_115 : decode cX11_layEnds 115 = .ok (.iload_n 2, 1) := by decide +kernel
theorem eX11_layEnds_116 : decode cX11_layEnds 116 = .ok (.iconst 1, 1) := by decide +kernel
theorem eX11_layEnds_117 : decode cX11_layEnds 117 = .ok (.isub, 1) := by decide +kernel
theorem eX11_layEnds_118 : decode cX11_layEnds 118 = .ok (.iaload, 1) := by decide +kernel
theorem eX11_layEnds_119 : decode cX11_layEnds 119 = .ok (.iadd, 1) := by decide +kernel
theorem eX11_layEnds_120 : decode cX11_layEnds 120 = .ok (.iaload, 1) := by decide +kernel
theorem eX11_layEnds_121 : decode cX11_layEnds 121 = .ok (.iload_n 3, 1) := by decide +kernel
theorem eX11_layEnds_122 : decode cX11_layEnds 122 = .ok (.if_icmp .ne 36, 3) := by decide +kernel
theorem eX11_layEnds_125 : decode cX11_layEnds 125 = .ok (.iinc 2 (-1), 3) := by decide +kernel
theorem eX11_layEnds_128 : decode cX11_layEnds 128 = .ok (.aload_n 0, 1) := by decide +kernel
theorem eX11_layEnds_129 : decode cX11_layEnds 129 = .ok (.getfield 48, 3) := by decide +kernel
theorem eX11_layEnds_132 : decode cX11_layEnds 132 = .ok (.bipush 40, 2) := by decide +kernel
theorem eX11_layEnds_134 : decode cX11_layEnds 134 = .ok (.iload_n 1, 1) := by decide +kernel
theorem eX11_layEnds_135 : decode cX11_layEnds 135 = .ok (.imul, 1) := by decide +kernel
theorem eX11_layEnds_136 : decode cX11_layEnds 136 = .ok (.aload_n 0, 1) := by decide +kernel
theorem eX11_layEnds_137 : decode cX11_layEnds 137 = .ok (.getfield 149, 3) := by decide +kernel
theorem eX11_layEnds_140 : decode cX11_layEnds 140 = .ok (.iload_n 2, 1) := by decide +kernel
theorem eX11_layEnds_141 : decode cX11_layEnds 141 = .ok (.iaload, 1) := by decide +kernel
theorem eX11_layEnds_142 : decode cX11_layEnds 142 = .ok (.iadd, 1) := by decide +kernel
theorem eX11_layEnds_143 : decode cX11_layEnds 143 = .ok (.aload_n 0, 1) := by decide +kernel
theorem eX11_layEnds_144 : decode cX11_layEnds 144 = .ok (.iload_n 1, 1) := by decide +kernel
theorem eX11_layEnds_145 : decode cX11_layEnds 145 = .ok (.aload_n 0, 1) := by decide +kernel
theorem eX11_layEnds_146 : decode cX11_layEnds 146 = .ok (.getfield 149, 3) := by decide +kernel
theorem eX11_layEnds_149 : decode cX11_layEnds 149 = .ok (.iload_n 2, 1) := by decide +kernel
theorem eX11_layEnds_150 : decode cX11_layEnds 150 = .ok (.iaload, 1) := by decide +kernel
theorem eX11_layEnds_151 : decode cX11_layEnds 151 = .ok (.invokevirtual 368, 3) := by decide +kernel
theorem eX11_layEnds_154 : decode cX11_layEnds 154 = .ok (.iastore, 1) := by decide +kernel
theorem eX11_layEnds_155 : decode cX11_layEnds 155 = .ok (.goto (-56), 3) := by decide +kernel
theorem eX11_layEnds_158 : decode cX11_layEnds 158 = .ok (.iinc 3 1, 3) := by decide +kernel
theorem eX11_layEnds_161 : decode cX11_layEnds 161 = .ok (.goto (-82), 3) := by decide +kernel
theorem eX11_layEnds_164 : decode cX11_layEnds 164 = .ok (.return_, 1) := by decide +kernel
def C_X11_layEnds (s : ST) (p : Int) (Q : ST → Prop) : Prop := bx <| RA s → R32 p → q_met mX11_layEnds (qs layM s) [.ref 139, .int (Int32.ofInt p)] (PV layM Q)
theorem C_X11_layEnds.mono {s : ST} {p : Int} {Q Q' : ST → Prop} (h : C_X11_layEnds s p Q) (hq : ∀ s, Q s → Q' s) : C_X11_layEnds s p Q' := ⟨fun hA hrp => q_met.mono (h.1 hA hrp) (fun _ _ => PV.mono hq), trivial⟩
def K_X11_layEnds_99 (s : ST) (a1 : Int) (a2 : Int) (a3 : Int) (Q : ST → Prop) : Prop := bx <| RA s → R32 a1 → R32 a2 → R32 a3 → q_K mX11_layEnds (qs layM s) 0 0 99 [(0, .ref 139), (1, .int (Int32.ofInt a1)), (2, .int (Int32.ofInt a2)), (3, .int (Int32.ofInt a3))] [] (q_fin mX11_layEnds (PV layM Q))
def K_X11_layEnds_79 (s : ST) (a1 : Int) (a2 : Int) (a3 : Int) (Q : ST → Prop) : Prop := bx <| RA s → R32 a1 → R32 a2 → R32 a3 → q_K mX11_layEnds (qs layM s) 0 0 79 [(0, .ref 139), (1, .int (Int32.ofInt a1)), (2, .int (Int32.ofInt a2)), (3, .int (Int32.ofInt a3))] [] (q_fin mX11_layEnds (PV layM Q))
def K_X11_layEnds_68 (s : ST) (a1 : Int) (a2 : Int) (t1 : Int) (t2 : Int) (Q : ST → Prop) : Prop := bx <| RA s → R32 a1 → R32 a2 → R32 t1 → R32 t2 → q_K mX11_layEnds (qs layM s) 0 0 68 [(0, .ref 139), (1, .int (Int32.ofInt a1)), (2, .int (Int32.ofInt a2))] [.int (Int32.ofInt t2), .int (Int32.ofInt t1), .ref 150] (q_fin mX11_layEnds (PV layM Q))
def K_X11_layEnds_9 (s : ST) (a1 : Int) (a2 : Int) (Q : ST → Prop) : Prop := bx <| RA s → R32 a1 → R32 a2 → q_K mX11_layEnds (qs layM s) 0 0 9 [(0, .ref 139), (1, .int (Int32.ofInt a1)), (2, .int (Int32.ofInt a2))] [] (q_fin mX11_layEnds (PV layM Q))
set_option maxRecDepth 20000 in
theorem s_X11_layEnds_99 {s : ST} {a1 : Int} {a2 : Int} {a3 : Int} {Q : ST → Prop} (h : RA s → R32 a1 → R32 a2 → R32 a3 → ((a2 ≤ 0 → (R32 (a3 + 1) ∧ K_X11_layEnds_79 s a1 a2 (a3 + 1) Q)) ∧ (¬ a2 ≤ 0 → (R32 (40 * a1) ∧ (R32 (a2 - 1) ∧ (((0 : Int) ≤ (a2 - 1) ∧ (a2 - 1) < 42) ∧ (R32 ((40 * a1) + s.1 183 (a2 - 1)) ∧ (((0 : Int) ≤ ((40 * a1) + s.1 183 (a2 - 1)) ∧ ((40 * a1) + s.1 183 (a2 - 1)) < 240) ∧ ((¬ s.1 150 ((40 * a1) + s.1 183 (a2 - 1)) = a3 → (R32 (a3 + 1) ∧ K_X11_layEnds_79 s a1 a2 (a3 + 1) Q)) ∧ (s.1 150 ((40 * a1) + s.1 183 (a2 - 1)) = a3 → (C_X11_asksHere s a1 (s.1 183 (a2 - 1)) (fun s8 v8 => K_X11_layEnds_99 (ui s8 151 ((40 * a1) + s.1 183 (a2 - 1)) v8) a1 (a2 - 1) a3 Q)))))))))))) : K_X11_layEnds_99 s a1 a2 a3 Q := by
  refine ⟨?_, trivial⟩
  intro hA hra1 hra2 hra3
  have h := h hA hra1 hra2 hra3
  refine q_iload_n eX11_layEnds_99 rfl ?_
  refine q_iz_le (tgt := 158) (a := a2) eX11_layEnds_100 (by decide) (ofz hra2) (fun c100 => ?_) (fun c100 => ?_)
  · have h := h.1 c100
    have r1 := h.1
    have h := h.2
    refine z_inc (m := 1) eX11_layEnds_158 rfl (Nat.le_of_ble_eq_true rfl) rfl ?_
    refine q_goto (tgt := 79) eX11_layEnds_161 (by decide) ?_
    exact q_subL rfl (h.1 hA hra1 hra2 r1)
  · have h := h.2 c100
    refine q_aload_n eX11_layEnds_103 rfl ?_
    refine q_getR (c := 11) (n := 0) (k := 19) (a := 150) eX11_layEnds_104 rfl (by decide) (by decide) fX11_45 rfl rfl ?_
    refine q_bi (v := Int32.ofInt 40) eX11_layEnds_107 rfl ?_
    refine q_iload_n eX11_layEnds_109 rfl ?_
    refine z_imul eX11_layEnds_110 ?_
    have r2 := h.1
    have h := h.2
    refine q_aload_n eX11_layEnds_111 rfl ?_
    refine q_getR (c := 11) (n := 0) (k := 65) (a := 183) eX11_layEnds_112 rfl (by decide) (by decide) fX11_149 rfl rfl ?_
    refine q_iload_n eX11_layEnds_115 rfl ?_
    refine q_ic (v := Int32.ofInt 1) eX11_layEnds_116 rfl ?_
    refine z_isub eX11_layEnds_117 ?_
    have r3 := h.1
    have h := h.2
    have f4 := h.1
    have h := h.2
    refine z_iald (n := 42) eX11_layEnds_118 rfl (ofz r3) f4 ?_
    refine q_topI (v := Int32.ofInt (s.1 183 (a2 - 1))) rfl ?_
    refine z_iadd eX11_layEnds_119 ?_
    have r5 := h.1
    have h := h.2
    have f6 := h.1
    have h := h.2
    refine z_iald (n := 240) eX11_layEnds_120 rfl (ofz r5) f6 ?_
    refine q_topI (v := Int32.ofInt (s.1 150 ((40 * a1) + s.1 183 (a2 - 1)))) rfl ?_
    refine q_iload_n eX11_layEnds_121 rfl ?_
    refine q_cz_ne (tgt := 158) (a := s.1 150 ((40 * a1) + s.1 183 (a2 - 1))) (b := a3) eX11_layEnds_122 (by decide) (ofz (hA _ _)) (ofz hra3) (fun c122 => ?_) (fun c122 => ?_)
    · have h := h.1 c122
      have r7 := h.1
      have h := h.2
      refine z_inc (m := 1) eX11_layEnds_158 rfl (Nat.le_of_ble_eq_true rfl) rfl ?_
      refine q_goto (tgt := 79) eX11_layEnds_161 (by decide) ?_
      exact q_subL rfl (h.1 hA hra1 hra2 r7)
    · have h := h.2 c122
      refine z_incN (m := 1) eX11_layEnds_125 rfl (Nat.le_of_ble_eq_true rfl) rfl ?_
      refine q_aload_n eX11_layEnds_128 rfl ?_
      refine q_getR (c := 11) (n := 0) (k := 20) (a := 151) eX11_layEnds_129 rfl (by decide) (by decide) fX11_48 rfl rfl ?_
      refine q_bi (v := Int32.ofInt 40) eX11_layEnds_132 rfl ?_
      refine q_iload_n eX11_layEnds_134 rfl ?_
      refine z_imul eX11_layEnds_135 ?_
      refine q_aload_n eX11_layEnds_136 rfl ?_
      refine q_getR (c := 11) (n := 0) (k := 65) (a := 183) eX11_layEnds_137 rfl (by decide) (by decide) fX11_149 rfl rfl ?_
      refine q_iload_n eX11_layEnds_140 rfl ?_
      refine z_iald (n := 42) eX11_layEnds_141 rfl (ofz r3) f4 ?_
      refine q_topI (v := Int32.ofInt (s.1 183 (a2 - 1))) rfl ?_
      refine z_iadd eX11_layEnds_142 ?_
      refine q_aload_n eX11_layEnds_143 rfl ?_
      refine q_iload_n eX11_layEnds_144 rfl ?_
      refine q_aload_n eX11_layEnds_145 rfl ?_
      refine q_getR (c := 11) (n := 0) (k := 65) (a := 183) eX11_layEnds_146 rfl (by decide) (by decide) fX11_149 rfl rfl ?_
      refine q_iload_n eX11_layEnds_149 rfl ?_
      refine z_iald (n := 42) eX11_layEnds_150 rfl (ofz r3) f4 ?_
      refine q_topI (v := Int32.ofInt (s.1 183 (a2 - 1))) rfl ?_
      refine q_V2 (ci := 11) (n := 0) eX11_layEnds_151 DX11_asksHere lX11_368 rfl (by decide) rfl rfl rfl rfl (h.1 hA hra1 (hA _ _)) ?_
      rintro _ _ ⟨s8, v8, rfl, hA8, r8, rfl, h⟩
      refine z_iast (n := 240) eX11_layEnds_154 rfl (ofz r5) f6  ?_
      refine q_goto (tgt := 99) eX11_layEnds_155 (by decide) ?_
      exact q_subL rfl (h.1 (ra_ui hA8 r8) hra1 r3 hra3)
set_option maxRecDepth 20000 in
theorem s_X11_layEnds_79 {s : ST} {a1 : Int} {a2 : Int} {a3 : Int} {Q : ST → Prop} (h : RA s → R32 a1 → R32 a2 → R32 a3 → (((0 : Int) ≤ a1 ∧ a1 < 6) ∧ ((s.1 142 a1 ≤ a3 → Q s) ∧ (¬ s.1 142 a1 ≤ a3 → (((0 : Int) ≤ a2 ∧ a2 < 42) ∧ (R32 (a2 + 1) ∧ K_X11_layEnds_99 (ui s 183 a2 a3) a1 (a2 + 1) a3 Q)))))) : K_X11_layEnds_79 s a1 a2 a3 Q := by
  refine ⟨?_, trivial⟩
  intro hA hra1 hra2 hra3
  have h := h hA hra1 hra2 hra3
  refine q_iload_n eX11_layEnds_79 rfl ?_
  refine q_aload_n eX11_layEnds_80 rfl ?_
  refine q_getR (c := 11) (n := 0) (k := 11) (a := 142) eX11_layEnds_81 rfl (by decide) (by decide) fX11_20 rfl rfl ?_
  refine q_iload_n eX11_layEnds_84 rfl ?_
  have f1 := h.1
  have h := h.2
  refine z_iald (n := 6) eX11_layEnds_85 rfl (ofz hra1) f1 ?_
  refine q_topI (v := Int32.ofInt (s.1 142 a1)) rfl ?_
  refine q_cz_ge (tgt := 164) (a := a3) (b := s.1 142 a1) eX11_layEnds_86 (by decide) (ofz hra3) (ofz (hA _ _)) (fun c86 => ?_) (fun c86 => ?_)
  · have h := h.1 c86
    exact q_ret eX11_layEnds_164 rfl ⟨_, rfl, hA, rfl, h⟩
  · have h := h.2 c86
    refine q_aload_n eX11_layEnds_89 rfl ?_
    refine q_getR (c := 11) (n := 0) (k := 65) (a := 183) eX11_layEnds_90 rfl (by decide) (by decide) fX11_149 rfl rfl ?_
    refine q_iload_n eX11_layEnds_93 rfl ?_
    refine q_iload_n eX11_layEnds_94 rfl ?_
    have f2 := h.1
    have h := h.2
    refine z_iast (n := 42) eX11_layEnds_95 rfl (ofz hra2) f2  ?_
    have r3 := h.1
    have h := h.2
    refine z_inc (m := 1) eX11_layEnds_96 rfl (Nat.le_of_ble_eq_true rfl) rfl ?_
    exact q_subL rfl (h.1 (ra_ui hA hra3) hra1 r3 hra3)
set_option maxRecDepth 20000 in
theorem s_X11_layEnds_68 {s : ST} {a1 : Int} {a2 : Int} {t1 : Int} {t2 : Int} {Q : ST → Prop} (h : RA s → R32 a1 → R32 a2 → R32 t1 → R32 t2 → (((0 : Int) ≤ t1 ∧ t1 < 240) ∧ (R32 (a2 - 1) ∧ K_X11_layEnds_9 (ui s 150 t1 t2) a1 (a2 - 1) Q))) : K_X11_layEnds_68 s a1 a2 t1 t2 Q := by
  refine ⟨?_, trivial⟩
  intro hA hra1 hra2 hrt1 hrt2
  have h := h hA hra1 hra2 hrt1 hrt2
  have f1 := h.1
  have h := h.2
  refine z_iast (n := 240) eX11_layEnds_68 rfl (ofz hrt1) f1  ?_
  have r2 := h.1
  have h := h.2
  refine z_incN (m := 1) eX11_layEnds_69 rfl (Nat.le_of_ble_eq_true rfl) rfl ?_
  refine q_goto (tgt := 9) eX11_layEnds_72 (by decide) ?_
  exact q_subL rfl (h.1 (ra_ui hA hrt2) hra1 r2)
set_option maxRecDepth 20000 in
theorem s_X11_layEnds_9 {s : ST} {a1 : Int} {a2 : Int} {Q : ST → Prop} (h : RA s → R32 a1 → R32 a2 → ((a2 < 0 → K_X11_layEnds_79 s a1 0 0 Q) ∧ (¬ a2 < 0 → (R32 (40 * a1) ∧ (R32 ((40 * a1) + a2) ∧ (((0 : Int) ≤ ((40 * a1) + a2) ∧ ((40 * a1) + a2) < 240) ∧ ((¬ (F_X11_kidsOf s (s.1 146 ((40 * a1) + a2))) = 0 → (R32 (3 * ((40 * a1) + a2)) ∧ (R32 ((3 * ((40 * a1) + a2)) + (F_X11_kidsOf s (s.1 146 ((40 * a1) + a2)))) ∧ (R32 (((3 * ((40 * a1) + a2)) + (F_X11_kidsOf s (s.1 146 ((40 * a1) + a2)))) - 1) ∧ (((0 : Int) ≤ (((3 * ((40 * a1) + a2)) + (F_X11_kidsOf s (s.1 146 ((40 * a1) + a2)))) - 1) ∧ (((3 * ((40 * a1) + a2)) + (F_X11_kidsOf s (s.1 146 ((40 * a1) + a2)))) - 1) < 720) ∧ (R32 ((40 * a1) + s.1 152 (((3 * ((40 * a1) + a2)) + (F_X11_kidsOf s (s.1 146 ((40 * a1) + a2)))) - 1)) ∧ (((0 : Int) ≤ ((40 * a1) + s.1 152 (((3 * ((40 * a1) + a2)) + (F_X11_kidsOf s (s.1 146 ((40 * a1) + a2)))) - 1)) ∧ ((40 * a1) + s.1 152 (((3 * ((40 * a1) + a2)) + (F_X11_kidsOf s (s.1 146 ((40 * a1) + a2)))) - 1)) < 240) ∧ K_X11_layEnds_68 s a1 a2 ((40 * a1) + a2) (s.1 150 ((40 * a1) + s.1 152 (((3 * ((40 * a1) + a2)) + (F_X11_kidsOf s (s.1 146 ((40 * a1) + a2)))) - 1))) Q))))))) ∧ ((F_X11_kidsOf s (s.1 146 ((40 * a1) + a2))) = 0 → K_X11_layEnds_68 s a1 a2 ((40 * a1) + a2) a2 Q)))))))) : K_X11_layEnds_9 s a1 a2 Q := by
  refine ⟨?_, trivial⟩
  intro hA hra1 hra2
  have h := h hA hra1 hra2
  refine q_iload_n eX11_layEnds_9 rfl ?_
  refine q_iz_lt (tgt := 75) (a := a2) eX11_layEnds_10 (by decide) (ofz hra2) (fun c10 => ?_) (fun c10 => ?_)
  · have h := h.1 c10
    refine q_ic (v := Int32.ofInt 0) eX11_layEnds_75 rfl ?_
    refine q_istore_n eX11_layEnds_76 (Nat.le_of_ble_eq_true rfl) ?_
    refine q_ic (v := Int32.ofInt 0) eX11_layEnds_77 rfl ?_
    refine q_istore_n eX11_layEnds_78 (Nat.le_of_ble_eq_true rfl) ?_
    exact q_subL rfl (h.1 hA hra1 (r32l rfl) (r32l rfl))
  · have h := h.2 c10
    refine q_bi (v := Int32.ofInt 40) eX11_layEnds_13 rfl ?_
    refine q_iload_n eX11_layEnds_15 rfl ?_
    refine z_imul eX11_layEnds_16 ?_
    have r1 := h.1
    have h := h.2
    refine q_iload_n eX11_layEnds_17 rfl ?_
    refine z_iadd eX11_layEnds_18 ?_
    have r2 := h.1
    have h := h.2
    refine q_istore_n eX11_layEnds_19 (Nat.le_of_ble_eq_true rfl) ?_
    refine q_aload_n eX11_layEnds_20 rfl ?_
    refine q_getR (c := 11) (n := 0) (k := 15) (a := 146) eX11_layEnds_21 rfl (by decide) (by decide) fX11_33 rfl rfl ?_
    refine q_iload_n eX11_layEnds_24 rfl ?_
    have f3 := h.1
    have h := h.2
    refine z_iald (n := 240) eX11_layEnds_25 rfl (ofz r2) f3 ?_
    refine q_topI (v := Int32.ofInt (s.1 146 ((40 * a1) + a2))) rfl ?_
    refine q_S1 eX11_layEnds_26 DX11_kidsOf lX11_365 rfl rfl rfl (p_X11_kidsOf hA (hA _ _)) ?_
    rintro _ _ ⟨r4, rfl, rfl⟩
    refine q_istore eX11_layEnds_29 (Nat.le_of_ble_eq_true rfl) ?_
    refine q_aload_n eX11_layEnds_31 rfl ?_
    refine q_getR (c := 11) (n := 0) (k := 19) (a := 150) eX11_layEnds_32 rfl (by decide) (by decide) fX11_45 rfl rfl ?_
    refine q_iload_n eX11_layEnds_35 rfl ?_
    refine q_iload eX11_layEnds_36 rfl ?_
    refine q_iz_ne (tgt := 45) (a := (F_X11_kidsOf s (s.1 146 ((40 * a1) + a2)))) eX11_layEnds_38 (by decide) (ofz r4) (fun c38 => ?_) (fun c38 => ?_)
    · have h := h.1 c38
      refine q_aload_n eX11_layEnds_45 rfl ?_
      refine q_getR (c := 11) (n := 0) (k := 19) (a := 150) eX11_layEnds_46 rfl (by decide) (by decide) fX11_45 rfl rfl ?_
      refine q_bi (v := Int32.ofInt 40) eX11_layEnds_49 rfl ?_
      refine q_iload_n eX11_layEnds_51 rfl ?_
      refine z_imul eX11_layEnds_52 ?_
      refine q_aload_n eX11_layEnds_53 rfl ?_
      refine q_getR (c := 11) (n := 0) (k := 21) (a := 152) eX11_layEnds_54 rfl (by decide) (by decide) fX11_51 rfl rfl ?_
      refine q_ic (v := Int32.ofInt 3) eX11_layEnds_57 rfl ?_
      refine q_iload_n eX11_layEnds_58 rfl ?_
      refine z_imul eX11_layEnds_59 ?_
      have r5 := h.1
      have h := h.2
      refine q_iload eX11_layEnds_60 rfl ?_
      refine z_iadd eX11_layEnds_62 ?_
      have r6 := h.1
      have h := h.2
      refine q_ic (v := Int32.ofInt 1) eX11_layEnds_63 rfl ?_
      refine z_isub eX11_layEnds_64 ?_
      have r7 := h.1
      have h := h.2
      have f8 := h.1
      have h := h.2
      refine z_iald (n := 720) eX11_layEnds_65 rfl (ofz r7) f8 ?_
      refine q_topI (v := Int32.ofInt (s.1 152 (((3 * ((40 * a1) + a2)) + (F_X11_kidsOf s (s.1 146 ((40 * a1) + a2)))) - 1))) rfl ?_
      refine z_iadd eX11_layEnds_66 ?_
      have r9 := h.1
      have h := h.2
      have f10 := h.1
      have h := h.2
      refine z_iald (n := 240) eX11_layEnds_67 rfl (ofz r9) f10 ?_
      refine q_topI (v := Int32.ofInt (s.1 150 ((40 * a1) + s.1 152 (((3 * ((40 * a1) + a2)) + (F_X11_kidsOf s (s.1 146 ((40 * a1) + a2)))) - 1)))) rfl ?_
      exact q_subL rfl (h.1 hA hra1 hra2 r2 (hA _ _))
    · have h := h.2 c38
      refine q_iload_n eX11_layEnds_41 rfl ?_
      refine q_goto (tgt := 68) eX11_layEnds_42 (by decide) ?_
      exact q_subL rfl (h.1 hA hra1 hra2 r2 hra2)
set_option maxRecDepth 20000 in
theorem s_X11_layEnds {s : ST} {p : Int} {Q : ST → Prop} (h : RA s → R32 p → (((0 : Int) ≤ p ∧ p < 6) ∧ (R32 (s.1 142 p - 1) ∧ K_X11_layEnds_9 s p (s.1 142 p - 1) Q))) : C_X11_layEnds s p Q := by
  refine ⟨?_, trivial⟩
  intro hA hrp
  have h := h hA hrp
  refine q_enter (by decide) (Nat.le_of_ble_eq_true rfl) ?_
  refine q_aload_n eX11_layEnds_0 rfl ?_
  refine q_getR (c := 11) (n := 0) (k := 11) (a := 142) eX11_layEnds_1 rfl (by decide) (by decide) fX11_20 rfl rfl ?_
  refine q_iload_n eX11_layEnds_4 rfl ?_
  have f1 := h.1
  have h := h.2
  refine z_iald (n := 6) eX11_layEnds_5 rfl (ofz hrp) f1 ?_
  refine q_topI (v := Int32.ofInt (s.1 142 p)) rfl ?_
  refine q_ic (v := Int32.ofInt 1) eX11_layEnds_6 rfl ?_
  refine z_isub eX11_layEnds_7 ?_
  have r2 := h.1
  have h := h.2
  refine q_istore_n eX11_layEnds_8 (Nat.le_of_ble_eq_true rfl) ?_
  exact q_subL rfl (h.1 hA hrp r2)
