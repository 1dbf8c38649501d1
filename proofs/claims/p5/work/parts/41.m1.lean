/-! STEP ROWS of the reference. By program (wip/wp/gen_parts.py). -/
theorem eX11_meant_0 : decode cX11_meant 0 = .ok (.aload_n 0, 1) := by decide +kernel
theorem eX11_meant_1 : decode cX11_meant 1 = .ok (.getfield 343, 3) := by decide +kernel
theorem eX11_meant_4 : decode cX11_meant 4 = .ok (.iconst 1, 1) := by decide +kernel
theorem eX11_meant_5 : decode cX11_meant 5 = .ok (.isub, 1) := by decide +kernel
theorem eX11_meant_6 : decode cX11_meant 6 = .ok (.istore_n 1, 1) := by decide +kernel
theorem eX11_meant_7 : decode cX11_meant 7 = .ok (.iload_n 1, 1) := by decide +kernel
theorem eX11_meant_8 : decode cX11_meant 8 = .ok (.ifCond .lt 75, 3) := by decide +kernel
theorem eX11_meant_11 : decode cX11_meant 11 = .ok (.bipush 40, 2) := by decide +kernel
theorem eX11_meant_13 : decode cX11_meant 13 = .ok (.aload_n 0, 1) := by decide +kernel
theorem eX11_meant_14 : decode cX11_meant 14 = .ok (.getfield 324, 3) := by decide +kernel
theorem eX11_meant_17 : decode cX11_meant 17 = .ok (.imul, 1) := by decide +kernel
theorem eX11_meant_18 : decode cX11_meant 18 = .ok (.aload_n 0, 1) := by decide +kernel
theorem eX11_meant_19 : decode cX11_meant 19 = .ok (.getfield 73, 3) := by decide +kernel
theorem eX11_meant_22 : decode cX11_meant 22 = .ok (.iload_n 1, 1) := by decide +kernel
theorem eX11_meant_23 : decode cX11_meant 23 = .ok (.iaload, 1) := by decide +kernel
theorem eX11_meant_24 : decode cX11_meant 24 = .ok (.iadd, 1) := by decide +kernel
theorem eX11_meant_25 : decode cX11_meant 25 = .ok (.istore_n 2, 1) := by decide +kernel
theorem eX11_meant_26 : decode cX11_meant 26 = .ok (.aload_n 0, 1) := by decide +kernel
theorem eX11_meant_27 : decode cX11_meant 27 = .ok (.getfield 70, 3) := by decide +kernel
theorem eX11_meant_30 : decode cX11_meant 30 = .ok (.iload_n 2, 1) := by decide +kernel
theorem eX11_meant_31 : decode cX11_meant 31 = .ok (.laload, 1) := by decide +kernel
theorem eX11_meant_32 : decode cX11_meant 32 = .ok (.aload_n 0, 1) := by decide +kernel
theorem eX11_meant_33 : decode cX11_meant 33 = .ok (.getfield 290, 3) := by decide +kernel
theorem eX11_meant_36 : decode cX11_meant 36 = .ok (.lcmp, 1) := by decide +kernel
theorem eX11_meant_37 : decode cX11_meant 37 = .ok (.ifCond .ne 40, 3) := by decide +kernel
theorem eX11_meant_40 : decode cX11_meant 40 = .ok (.aload_n 0, 1) := by decide +kernel
theorem eX11_meant_41 : decode cX11_meant 41 = .ok (.getfield 33, 3) := by decide +kernel
theorem eX11_meant_44 : decode cX11_meant 44 = .ok (.iload_n 2, 1) := by decide +kernel
theorem eX11_meant_45 : decode cX11_meant 45 = .ok (.iaload, 1) := by decide +kernel
theorem eX11_meant_46 : decode cX11_meant 46 = .ok (.iconst 3, 1) := by decide +kernel
theorem eX11_meant_47 : decode cX11_meant 47 = .ok (.if_icmp .eq 23, 3) := by decide +kernel
theorem eX11_meant_50 : decode cX11_meant 50 = .ok (.aload_n 0, 1) := by decide +kernel
theorem eX11_meant_51 : decode cX11_meant 51 = .ok (.getfield 33, 3) := by decide +kernel
theorem eX11_meant_54 : decode cX11_meant 54 = .ok (.iload_n 2, 1) := by decide +kernel
theorem eX11_meant_55 : decode cX11_meant 55 = .ok (.iaload, 1) := by decide +kernel
theorem eX11_meant_56 : decode cX11_meant 56 = .ok (.iconst 4, 1) := by decide +kernel
theorem eX11_meant_57 : decode cX11_meant 57 = .ok (.if_icmp .ne 20, 3) := by decide +kernel
theorem eX11_meant_60 : decode cX11_meant 60 = .ok (.aload_n 0, 1) := by decide +kernel
theorem eX11_meant_61 : decode cX11_meant 61 = .ok (.getfield 76, 3) := by decide +kernel
theorem eX11_meant_64 : decode cX11_meant 64 = .ok (.iload_n 1, 1) := by decide +kernel
theorem eX11_meant_65 : decode cX11_meant 65 = .ok (.iaload, 1) := by decide +kernel
theorem eX11_meant_66 : decode cX11_meant 66 = .ok (.iconst 1, 1) := by decide +kernel
theorem eX11_meant_67 : decode cX11_meant 67 = .ok (.if_icmp .ne 10, 3) := by decide +kernel
theorem eX11_meant_70 : decode cX11_meant 70 = .ok (.aload_n 0, 1) := by decide +kernel
theorem eX11_meant_71 : decode cX11_meant 71 = .ok (.getfield 73, 3) := by decide +kernel
theorem eX11_meant_74 : decode cX11_meant 74 = .ok (.iload_n 1, 1) := by decide +kernel
theorem eX11_meant_75 : decode cX11_meant 75 = .ok (.iaload, 1) := by decide +kernel
theorem eX11_meant_76 : decode cX11_meant 76 = .ok (.ireturn, 1) := by decide +kernel
theorem eX11_meant_77 : decode cX11_meant 77 = .ok (.iinc 1 (-1), 3) := by decide +kernel
theorem eX11_meant_80 : decode cX11_meant 80 = .ok (.goto (-73), 3) := by decide +kernel
theorem eX11_meant_83 : decode cX11_meant 83 = .ok (.aload_n 0, 1) := by decide +kernel
theorem eX11_meant_84 : decode cX11_meant 84 = .ok (.getfield 24, 3) := by decide +kernel
theorem eX11_meant_87 : decode cX11_meant 87 = .ok (.aload_n 0, 1) := by decide +kernel
theorem eX11_meant_88 : decode cX11_meant 88 = .ok (.getfield 324, 3) := by decide +kernel
theorem eX11_meant_91 : decode cX11_meant 91 = .ok (.iaload, 1) := by decide +kernel
theorem eX11_meant_92 : decode cX11_meant 92 = .ok (.iconst 1, 1) := by decide +kernel
theorem eX11_meant_93 : decode cX11_meant 93 = .ok (.isub, 1) := by decide +kernel
theorem eX11_meant_94 : decode cX11_meant 94 = .ok (.istore_n 1, 1) := by decide +kernel
theorem eX11_meant_95 : decode cX11_meant 95 = .ok (.iload_n 1, 1) := by decide +kernel
theorem eX11_meant_96 : decode cX11_meant 96 = .ok (.ifCond .lt 36, 3) := by decide +kernel
theorem eX11_meant_99 : decode cX11_meant 99 = .ok (.aload_n 0, 1) := by decide +kernel
theorem eX11_meant_100 : decode cX11_meant 100 = .ok (.getfield 66, 3) := by decide +kernel
theorem eX11_meant_103 : decode cX11_meant 103 = .ok (.bipush 8, 2) := by decide +kernel
theorem eX11_meant_105 : decode cX11_meant 105 = .ok (.aload_n 0, 1) := by decide +kernel
theorem eX11_meant_106 : decode cX11_meant 106 = .ok (.getfield 324, 3) := by decide +kernel
theorem eX11_meant_109 : decode cX11_meant 109 = .ok (.imul, 1) := by decide +kernel
theorem eX11_meant_110 : decode cX11_meant 110 = .ok (.iload_n 1, 1) := by decide +kernel
theorem eX11_meant_111 : decode cX11_meant 111 = .ok (.iadd, 1) := by decide +kernel
theorem eX11_meant_112 : decode cX11_meant 112 = .ok (.laload, 1) := by decide +kernel
theorem eX11_meant_113 : decode cX11_meant 113 = .ok (.aload_n 0, 1) := by decide +kernel
theorem eX11_meant_114 : decode cX11_meant 114 = .ok (.getfield 290, 3) := by decide +kernel
theorem eX11_meant_117 : decode cX11_meant 117 = .ok (.lcmp, 1) := by decide +kernel
theorem eX11_meant_118 : decode cX11_meant 118 = .ok (.ifCond .ne 8, 3) := by decide +kernel
theorem eX11_meant_121 : decode cX11_meant 121 = .ok (.bipush 100, 2) := by decide +kernel
theorem eX11_meant_123 : decode cX11_meant 123 = .ok (.iload_n 1, 1) := by decide +kernel
theorem eX11_meant_124 : decode cX11_meant 124 = .ok (.iadd, 1) := by decide +kernel
theorem eX11_meant_125 : decode cX11_meant 125 = .ok (.ireturn, 1) := by decide +kernel
theorem eX11_meant_126 : decode cX11_meant 126 = .ok (.iinc 1 (-1), 3) := by decide +kernel
theorem eX11_meant_129 : decode cX11_meant 129 = .ok (.goto (-34), 3) := by decide +kernel
theorem eX11_meant_132 : decode cX11_meant 132 = .ok (.iconst (-1), 1) := by decide +kernel
theorem eX11_meant_133 : decode cX11_meant 133 = .ok (.ireturn, 1) := by decide +kernel
def C_X11_meant (s : ST) (Q : ST → Int → Prop) : Prop := bx <| RA s → q_met mX11_meant (qs layM s) [.ref 139] (PI layM Q)
theorem C_X11_meant.mono {s : ST} {Q Q' : ST → Int → Prop} (h : C_X11_meant s Q) (hq : ∀ s v, Q s v → Q' s v) : C_X11_meant s Q' := ⟨fun hA => q_met.mono (h.1 hA) (fun _ _ => PI.mono hq), trivial⟩
def K_X11_meant_95 (s : ST) (a1 : Int) (Q : ST → Int → Prop) : Prop := bx <| RA s → R32 a1 → q_K mX11_meant (qs layM s) 0 0 95 [(0, .ref 139), (1, .int (Int32.ofInt a1))] [] (q_fin mX11_meant (PI layM Q))
def K_X11_meant_70 (s : ST) (a1 : Int) (Q : ST → Int → Prop) : Prop := bx <| RA s → R32 a1 → q_K mX11_meant (qs layM s) 0 0 70 [(0, .ref 139), (1, .int (Int32.ofInt a1))] [] (q_fin mX11_meant (PI layM Q))
def K_X11_meant_7 (s : ST) (a1 : Int) (Q : ST → Int → Prop) : Prop := bx <| RA s → R32 a1 → q_K mX11_meant (qs layM s) 0 0 7 [(0, .ref 139), (1, .int (Int32.ofInt a1))] [] (q_fin mX11_meant (PI layM Q))
set_option maxRecDepth 20000 in
theorem s_X11_meant_95 {s : ST} {a1 : Int} {Q : ST → Int → Prop} (h : RA s → R32 a1 → ((a1 < 0 → Q s (-1)) ∧ (¬ a1 < 0 → (R32 (8 * s.1 139 29) ∧ (R32 ((8 * s.1 139 29) + a1) ∧ (((0 : Int) ≤ ((8 * s.1 139 29) + a1) ∧ ((8 * s.1 139 29) + a1) < 48) ∧ ((¬ (s.2 157 ((8 * s.1 139 29) + a1)) = (s.2 139 10) → (R32 (a1 - 1) ∧ K_X11_meant_95 s (a1 - 1) Q)) ∧ ((s.2 157 ((8 * s.1 139 29) + a1)) = (s.2 139 10) → (R32 (100 + a1) ∧ Q s (100 + a1)))))))))) : K_X11_meant_95 s a1 Q := by
  refine ⟨?_, trivial⟩
  intro hA hra1
  have h := h hA hra1
  refine q_iload_n eX11_meant_95 rfl ?_
  refine q_iz_lt (tgt := 132) (a := a1) eX11_meant_96 (by decide) (ofz hra1) (fun c96 => ?_) (fun c96 => ?_)
  · have h := h.1 c96
    refine q_ic (v := Int32.ofInt (-1)) eX11_meant_132 rfl ?_
    exact q_iret eX11_meant_133 rfl ⟨_, _, rfl, hA, (r32l rfl), rfl, h⟩
  · have h := h.2 c96
    refine q_aload_n eX11_meant_99 rfl ?_
    refine q_getR (c := 11) (n := 0) (k := 26) (a := 157) eX11_meant_100 rfl (by decide) (by decide) fX11_66 rfl rfl ?_
    refine q_bi (v := Int32.ofInt 8) eX11_meant_103 rfl ?_
    refine q_aload_n eX11_meant_105 rfl ?_
    refine q_getf (c := 11) (n := 0) (k := 29) (v := .int (Int32.ofInt (s.1 139 29))) eX11_meant_106 rfl (by decide) (by decide) fX11_324 rfl ?_
    refine z_imul eX11_meant_109 ?_
    have r1 := h.1
    have h := h.2
    refine q_iload_n eX11_meant_110 rfl ?_
    refine z_iadd eX11_meant_111 ?_
    have r2 := h.1
    have h := h.2
    have f3 := h.1
    have h := h.2
    refine z_lald (n := 48) eX11_meant_112 rfl (ofz r2) f3 ?_
    refine q_topL (v := s.2 157 ((8 * s.1 139 29) + a1)) rfl ?_
    refine q_aload_n eX11_meant_113 rfl ?_
    refine q_getf (c := 11) (n := 0) (k := 10) (v := .long (s.2 139 10)) eX11_meant_114 rfl (by decide) (by decide) fX11_290 rfl ?_
    refine q_lcmp eX11_meant_117 ?_
    refine z_lc_ne (tgt := 126) eX11_meant_118 (by decide) (fun c118 => ?_) (fun c118 => ?_)
    · have h := h.1 c118
      have r4 := h.1
      have h := h.2
      refine z_incN (m := 1) eX11_meant_126 rfl (Nat.le_of_ble_eq_true rfl) rfl ?_
      refine q_goto (tgt := 95) eX11_meant_129 (by decide) ?_
      exact q_subL rfl (h.1 hA r4)
    · have h := h.2 c118
      refine q_bi (v := Int32.ofInt 100) eX11_meant_121 rfl ?_
      refine q_iload_n eX11_meant_123 rfl ?_
      refine z_iadd eX11_meant_124 ?_
      have r5 := h.1
      have h := h.2
      exact q_iret eX11_meant_125 rfl ⟨_, _, rfl, hA, r5, rfl, h⟩
set_option maxRecDepth 20000 in
theorem s_X11_meant_70 {s : ST} {a1 : Int} {Q : ST → Int → Prop} (h : RA s → R32 a1 → (((0 : Int) ≤ a1 ∧ a1 < 22) ∧ Q s (s.1 159 a1))) : K_X11_meant_70 s a1 Q := by
  refine ⟨?_, trivial⟩
  intro hA hra1
  have h := h hA hra1
  refine q_aload_n eX11_meant_70 rfl ?_
  refine q_getR (c := 11) (n := 0) (k := 30) (a := 159) eX11_meant_71 rfl (by decide) (by decide) fX11_73 rfl rfl ?_
  refine q_iload_n eX11_meant_74 rfl ?_
  have f1 := h.1
  have h := h.2
  refine z_iald (n := 22) eX11_meant_75 rfl (ofz hra1) f1 ?_
  refine q_topI (v := Int32.ofInt (s.1 159 a1)) rfl ?_
  exact q_iret eX11_meant_76 rfl ⟨_, _, rfl, hA, (hA _ _), rfl, h⟩
set_option maxRecDepth 20000 in
theorem s_X11_meant_7 {s : ST} {a1 : Int} {Q : ST → Int → Prop} (h : RA s → R32 a1 → ((a1 < 0 → (((0 : Int) ≤ s.1 139 29 ∧ s.1 139 29 < 6) ∧ (R32 (s.1 143 (s.1 139 29) - 1) ∧ K_X11_meant_95 s (s.1 143 (s.1 139 29) - 1) Q))) ∧ (¬ a1 < 0 → (R32 (40 * s.1 139 29) ∧ (((0 : Int) ≤ a1 ∧ a1 < 22) ∧ (R32 ((40 * s.1 139 29) + s.1 159 a1) ∧ (((0 : Int) ≤ ((40 * s.1 139 29) + s.1 159 a1) ∧ ((40 * s.1 139 29) + s.1 159 a1) < 240) ∧ ((¬ (s.2 158 ((40 * s.1 139 29) + s.1 159 a1)) = (s.2 139 10) → (R32 (a1 - 1) ∧ K_X11_meant_7 s (a1 - 1) Q)) ∧ ((s.2 158 ((40 * s.1 139 29) + s.1 159 a1)) = (s.2 139 10) → ((s.1 146 ((40 * s.1 139 29) + s.1 159 a1) = 3 → K_X11_meant_70 s a1 Q) ∧ (¬ s.1 146 ((40 * s.1 139 29) + s.1 159 a1) = 3 → ((¬ s.1 146 ((40 * s.1 139 29) + s.1 159 a1) = 4 → (R32 (a1 - 1) ∧ K_X11_meant_7 s (a1 - 1) Q)) ∧ (s.1 146 ((40 * s.1 139 29) + s.1 159 a1) = 4 → ((¬ s.1 160 a1 = 1 → (R32 (a1 - 1) ∧ K_X11_meant_7 s (a1 - 1) Q)) ∧ (s.1 160 a1 = 1 → K_X11_meant_70 s a1 Q))))))))))))))) : K_X11_meant_7 s a1 Q := by
  refine ⟨?_, trivial⟩
  intro hA hra1
  have h := h hA hra1
  refine q_iload_n eX11_meant_7 rfl ?_
  refine q_iz_lt (tgt := 83) (a := a1) eX11_meant_8 (by decide) (ofz hra1) (fun c8 => ?_) (fun c8 => ?_)
  · have h := h.1 c8
    refine q_aload_n eX11_meant_83 rfl ?_
    refine q_getR (c := 11) (n := 0) (k := 12) (a := 143) eX11_meant_84 rfl (by decide) (by decide) fX11_24 rfl rfl ?_
    refine q_aload_n eX11_meant_87 rfl ?_
    refine q_getf (c := 11) (n := 0) (k := 29) (v := .int (Int32.ofInt (s.1 139 29))) eX11_meant_88 rfl (by decide) (by decide) fX11_324 rfl ?_
    have f1 := h.1
    have h := h.2
    refine z_iald (n := 6) eX11_meant_91 rfl (ofz (hA _ _)) f1 ?_
    refine q_topI (v := Int32.ofInt (s.1 143 (s.1 139 29))) rfl ?_
    refine q_ic (v := Int32.ofInt 1) eX11_meant_92 rfl ?_
    refine z_isub eX11_meant_93 ?_
    have r2 := h.1
    have h := h.2
    refine q_istore_n eX11_meant_94 (Nat.le_of_ble_eq_true rfl) ?_
    exact q_subL rfl (h.1 hA r2)
  · have h := h.2 c8
    refine q_bi (v := Int32.ofInt 40) eX11_meant_11 rfl ?_
    refine q_aload_n eX11_meant_13 rfl ?_
    refine q_getf (c := 11) (n := 0) (k := 29) (v := .int (Int32.ofInt (s.1 139 29))) eX11_meant_14 rfl (by decide) (by decide) fX11_324 rfl ?_
    refine z_imul eX11_meant_17 ?_
    have r3 := h.1
    have h := h.2
    refine q_aload_n eX11_meant_18 rfl ?_
    refine q_getR (c := 11) (n := 0) (k := 30) (a := 159) eX11_meant_19 rfl (by decide) (by decide) fX11_73 rfl rfl ?_
    refine q_iload_n eX11_meant_22 rfl ?_
    have f4 := h.1
    have h := h.2
    refine z_iald (n := 22) eX11_meant_23 rfl (ofz hra1) f4 ?_
    refine q_topI (v := Int32.ofInt (s.1 159 a1)) rfl ?_
    refine z_iadd eX11_meant_24 ?_
    have r5 := h.1
    have h := h.2
    refine q_istore_n eX11_meant_25 (Nat.le_of_ble_eq_true rfl) ?_
    refine q_aload_n eX11_meant_26 rfl ?_
    refine q_getR (c := 11) (n := 0) (k := 27) (a := 158) eX11_meant_27 rfl (by decide) (by decide) fX11_70 rfl rfl ?_
    refine q_iload_n eX11_meant_30 rfl ?_
    have f6 := h.1
    have h := h.2
    refine z_lald (n := 240) eX11_meant_31 rfl (ofz r5) f6 ?_
    refine q_topL (v := s.2 158 ((40 * s.1 139 29) + s.1 159 a1)) rfl ?_
    refine q_aload_n eX11_meant_32 rfl ?_
    refine q_getf (c := 11) (n := 0) (k := 10) (v := .long (s.2 139 10)) eX11_meant_33 rfl (by decide) (by decide) fX11_290 rfl ?_
    refine q_lcmp eX11_meant_36 ?_
    refine z_lc_ne (tgt := 77) eX11_meant_37 (by decide) (fun c37 => ?_) (fun c37 => ?_)
    · have h := h.1 c37
      have r7 := h.1
      have h := h.2
      refine z_incN (m := 1) eX11_meant_77 rfl (Nat.le_of_ble_eq_true rfl) rfl ?_
      refine q_goto (tgt := 7) eX11_meant_80 (by decide) ?_
      exact q_subL rfl (h.1 hA r7)
    · have h := h.2 c37
      refine q_aload_n eX11_meant_40 rfl ?_
      refine q_getR (c := 11) (n := 0) (k := 15) (a := 146) eX11_meant_41 rfl (by decide) (by decide) fX11_33 rfl rfl ?_
      refine q_iload_n eX11_meant_44 rfl ?_
      refine z_iald (n := 240) eX11_meant_45 rfl (ofz r5) f6 ?_
      refine q_topI (v := Int32.ofInt (s.1 146 ((40 * s.1 139 29) + s.1 159 a1))) rfl ?_
      refine q_ic (v := Int32.ofInt 3) eX11_meant_46 rfl ?_
      refine q_cz_eq (tgt := 70) (a := s.1 146 ((40 * s.1 139 29) + s.1 159 a1)) (b := 3) eX11_meant_47 (by decide) (ofz (hA _ _)) (ofz (r32l rfl)) (fun c47 => ?_) (fun c47 => ?_)
      · have h := h.1 c47
        exact q_subL rfl (h.1 hA hra1)
      · have h := h.2 c47
        refine q_aload_n eX11_meant_50 rfl ?_
        refine q_getR (c := 11) (n := 0) (k := 15) (a := 146) eX11_meant_51 rfl (by decide) (by decide) fX11_33 rfl rfl ?_
        refine q_iload_n eX11_meant_54 rfl ?_
        refine z_iald (n := 240) eX11_meant_55 rfl (ofz r5) f6 ?_
        refine q_topI (v := Int32.ofInt (s.1 146 ((40 * s.1 139 29) + s.1 159 a1))) rfl ?_
        refine q_ic (v := Int32.ofInt 4) eX11_meant_56 rfl ?_
        refine q_cz_ne (tgt := 77) (a := s.1 146 ((40 * s.1 139 29) + s.1 159 a1)) (b := 4) eX11_meant_57 (by decide) (ofz (hA _ _)) (ofz (r32l rfl)) (fun c57 => ?_) (fun c57 => ?_)
        · have h := h.1 c57
          have r8 := h.1
          have h := h.2
          refine z_incN (m := 1) eX11_meant_77 rfl (Nat.le_of_ble_eq_true rfl) rfl ?_
          refine q_goto (tgt := 7) eX11_meant_80 (by decide) ?_
          exact q_subL rfl (h.1 hA r8)
        · have h := h.2 c57
          refine q_aload_n eX11_meant_60 rfl ?_
          refine q_getR (c := 11) (n := 0) (k := 31) (a := 160) eX11_meant_61 rfl (by decide) (by decide) fX11_76 rfl rfl ?_
          refine q_iload_n eX11_meant_64 rfl ?_
          refine z_iald (n := 22) eX11_meant_65 rfl (ofz hra1) f4 ?_
          refine q_topI (v := Int32.ofInt (s.1 160 a1)) rfl ?_
          refine q_ic (v := Int32.ofInt 1) eX11_meant_66 rfl ?_
          refine q_cz_ne (tgt := 77) (a := s.1 160 a1) (b := 1) eX11_meant_67 (by decide) (ofz (hA _ _)) (ofz (r32l rfl)) (fun c67 => ?_) (fun c67 => ?_)
          · have h := h.1 c67
            have r9 := h.1
            have h := h.2
            refine z_incN (m := 1) eX11_meant_77 rfl (Nat.le_of_ble_eq_true rfl) rfl ?_
            refine q_goto (tgt := 7) eX11_meant_80 (by decide) ?_
            exact q_subL rfl (h.1 hA r9)
          · have h := h.2 c67
            exact q_subL rfl (h.1 hA hra1)
set_option maxRecDepth 20000 in
theorem s_X11_meant {s : ST} {Q : ST → Int → Prop} (h : RA s → (R32 (s.1 139 32 - 1) ∧ K_X11_meant_7 s (s.1 139 32 - 1) Q)) : C_X11_meant s Q := by
  refine ⟨?_, trivial⟩
  intro hA
  have h := h hA
  refine q_enter (by decide) (Nat.le_of_ble_eq_true rfl) ?_
  refine q_aload_n eX11_meant_0 rfl ?_
  refine q_getf (c := 11) (n := 0) (k := 32) (v := .int (Int32.ofInt (s.1 139 32))) eX11_meant_1 rfl (by decide) (by decide) fX11_343 rfl ?_
  refine q_ic (v := Int32.ofInt 1) eX11_meant_4 rfl ?_
  refine z_isub eX11_meant_5 ?_
  have r1 := h.1
  have h := h.2
  refine q_istore_n eX11_meant_6 (Nat.le_of_ble_eq_true rfl) ?_
  exact q_subL rfl (h.1 hA r1)
theorem eX11_readWord_0 : decode cX11_readWord 0 = .ok (.aload_n 0, 1) := by decide +kernel
theorem eX11_readWord_1 : decode cX11_readWord 1 = .ok (.getfield 70, 3) := by decide +kernel
theorem eX11_readWord_4 : decode cX11_readWord 4 = .ok (.iload_n 1, 1) := by decide +kernel
theorem eX11_readWord_5 : decode cX11_readWord 5 = .ok (.aload_n 0, 1) := by decide +kernel
theorem eX11_readWord_6 : decode cX11_readWord 6 = .ok (.getfield 290, 3) := by decide +kernel
theorem eX11_readWord_9 : decode cX11_readWord 9 = .ok (.lastore, 1) := by decide +kernel
theorem eX11_readWord_10 : decode cX11_readWord 10 = .ok (.aload_n 0, 1) := by decide +kernel
theorem eX11_readWord_11 : decode cX11_readWord 11 = .ok (.aload_n 0, 1) := by decide +kernel
theorem eX11_readWord_12 : decode cX11_readWord 12 = .ok (.getfield 283, 3) := by decide +kernel
theorem eX11_readWord_15 : decode cX11_readWord 15 = .ok (.iconst 2, 1) := by decide +kernel
theorem eX11_readWord_16 : decode cX11_readWord 16 = .ok (.if_icmp .ne 7, 3) := by decide +kernel
theorem eX11_readWord_19 : decode cX11_readWord 19 = .ok (.iconst 1, 1) := by decide +kernel
theorem eX11_readWord_20 : decode cX11_readWord 20 = .ok (.goto 4, 3) := by decide +kernel
theorem eX11_readWord_23 : decode cX11_readWord 23 = .ok (.iconst 0, 1) := by decide +kernel
theorem eX11_readWord_24 : decode cX11_readWord 24 = .ok (.invokevirtual 339, 3) := by decide +kernel
theorem eX11_readWord_27 : decode cX11_readWord 27 = .ok (.return_, 1) := by decide +kernel
def C_X11_readWord (s : ST) (p : Int) (Q : ST → Prop) : Prop := bx <| RA s → R32 p → q_met mX11_readWord (qs layM s) [.ref 139, .int (Int32.ofInt p)] (PV layM Q)
theorem C_X11_readWord.mono {s : ST} {p : Int} {Q Q' : ST → Prop} (h : C_X11_readWord s p Q) (hq : ∀ s, Q s → Q' s) : C_X11_readWord s p Q' := ⟨fun hA hrp => q_met.mono (h.1 hA hrp) (fun _ _ => PV.mono hq), trivial⟩
def K_X11_readWord_24 (s : ST) (t1 : Int) (Q : ST → Prop) : Prop := bx <| RA s → R32 t1 → q_K mX11_readWord (qs layM s) 0 0 24 [] [.int (Int32.ofInt t1), .ref 139] (q_fin mX11_readWord (PV layM Q))
set_option maxRecDepth 20000 in
theorem s_X11_readWord_24 {s : ST} {t1 : Int} {Q : ST → Prop} (h : RA s → R32 t1 → (C_X11_must s t1 (fun s1 => Q s1))) : K_X11_readWord_24 s t1 Q := by
  refine ⟨?_, trivial⟩
  intro hA hrt1
  have h := h hA hrt1
  refine q_V1 (ci := 11) (n := 0) eX11_readWord_24 DX11_must lX11_339 rfl (by decide) rfl rfl rfl rfl (h.1 hA hrt1) ?_
  rintro _ _ ⟨s1, rfl, hA1, rfl, h⟩
  exact q_ret eX11_readWord_27 rfl ⟨_, rfl, hA1, rfl, h⟩
set_option maxRecDepth 20000 in
theorem s_X11_readWord {s : ST} {p : Int} {Q : ST → Prop} (h : RA s → R32 p → (((0 : Int) ≤ p ∧ p < 240) ∧ ((¬ s.1 139 8 = 2 → K_X11_readWord_24 (uj s 158 p (s.2 139 10)) 0 Q) ∧ (s.1 139 8 = 2 → K_X11_readWord_24 (uj s 158 p (s.2 139 10)) 1 Q)))) : C_X11_readWord s p Q := by
  refine ⟨?_, trivial⟩
  intro hA hrp
  have h := h hA hrp
  refine q_enter (by decide) (Nat.le_of_ble_eq_true rfl) ?_
  refine q_aload_n eX11_readWord_0 rfl ?_
  refine q_getR (c := 11) (n := 0) (k := 27) (a := 158) eX11_readWord_1 rfl (by decide) (by decide) fX11_70 rfl rfl ?_
  refine q_iload_n eX11_readWord_4 rfl ?_
  refine q_aload_n eX11_readWord_5 rfl ?_
  refine q_getf (c := 11) (n := 0) (k := 10) (v := .long (s.2 139 10)) eX11_readWord_6 rfl (by decide) (by decide) fX11_290 rfl ?_
  have f1 := h.1
  have h := h.2
  refine z_last (n := 240) eX11_readWord_9 rfl (ofz hrp) f1  ?_
  refine q_aload_n eX11_readWord_10 rfl ?_
  refine q_aload_n eX11_readWord_11 rfl ?_
  refine q_getf (c := 11) (n := 0) (k := 8) (v := .int (Int32.ofInt (s.1 139 8))) eX11_readWord_12 rfl (by decide) (by decide) fX11_283 rfl ?_
  refine q_ic (v := Int32.ofInt 2) eX11_readWord_15 rfl ?_
  refine q_cz_ne (tgt := 23) (a := s.1 139 8) (b := 2) eX11_readWord_16 (by decide) (ofz (hA _ _)) (ofz (r32l rfl)) (fun c16 => ?_) (fun c16 => ?_)
  · have h := h.1 c16
    refine q_ic (v := Int32.ofInt 0) eX11_readWord_23 rfl ?_
    exact q_subL rfl (h.1 (ra_uj hA) (r32l rfl))
  · have h := h.2 c16
    refine q_ic (v := Int32.ofInt 1) eX11_readWord_19 rfl ?_
    refine q_goto (tgt := 24) eX11_readWord_20 (by decide) ?_
    exact q_subL rfl (h.1 (ra_uj hA) (r32l rfl))
theorem eX11_kindHere_0 : decode cX11_kindHere 0 = .ok (.aload_n 0, 1) := by decide +kernel
theorem eX11_kindHere_1 : decode cX11_kindHere 1 = .ok (.ldc2_w 261, 3) := by decide +kernel
theorem eX11_kindHere_4 : decode cX11_kindHere 4 = .ok (.invokevirtual 333, 3) := by decide +kernel
theorem eX11_kindHere_7 : decode cX11_kindHere 7 = .ok (.ifCond .eq 5, 3) := by decide +kernel
theorem eX11_kindHere_10 : decode cX11_kindHere 10 = .ok (.iconst 0, 1) := by decide +kernel
theorem eX11_kindHere_11 : decode cX11_kindHere 11 = .ok (.ireturn, 1) := by decide +kernel
theorem eX11_kindHere_12 : decode cX11_kindHere 12 = .ok (.aload_n 0, 1) := by decide +kernel
theorem eX11_kindHere_13 : decode cX11_kindHere 13 = .ok (.ldc2_w 263, 3) := by decide +kernel
theorem eX11_kindHere_16 : decode cX11_kindHere 16 = .ok (.invokevirtual 333, 3) := by decide +kernel
theorem eX11_kindHere_19 : decode cX11_kindHere 19 = .ok (.ifCond .eq 5, 3) := by decide +kernel
theorem eX11_kindHere_22 : decode cX11_kindHere 22 = .ok (.iconst 1, 1) := by decide +kernel
theorem eX11_kindHere_23 : decode cX11_kindHere 23 = .ok (.ireturn, 1) := by decide +kernel
theorem eX11_kindHere_24 : decode cX11_kindHere 24 = .ok (.aload_n 0, 1) := by decide +kernel
theorem eX11_kindHere_25 : decode cX11_kindHere 25 = .ok (.ldc2_w 265, 3) := by decide +kernel
theorem eX11_kindHere_28 : decode cX11_kindHere 28 = .ok (.invokevirtual 333, 3) := by decide +kernel
theorem eX11_kindHere_31 : decode cX11_kindHere 31 = .ok (.ifCond .eq 5, 3) := by decide +kernel
theorem eX11_kindHere_34 : decode cX11_kindHere 34 = .ok (.iconst 2, 1) := by decide +kernel
theorem eX11_kindHere_35 : decode cX11_kindHere 35 = .ok (.ireturn, 1) := by decide +kernel
theorem eX11_kindHere_36 : decode cX11_kindHere 36 = .ok (.aload_n 0, 1) := by decide +kernel
theorem eX11_kindHere_37 : decode cX11_kindHere 37 = .ok (.ldc2_w 267, 3) := by decide +kernel
theorem eX11_kindHere_40 : decode cX11_kindHere 40 = .ok (.invokevirtual 333, 3) := by decide +kernel
theorem eX11_kindHere_43 : decode cX11_kindHere 43 = .ok (.ifCond .eq 5, 3) := by decide +kernel
theorem eX11_kindHere_46 : decode cX11_kindHere 46 = .ok (.iconst 3, 1) := by decide +kernel
theorem eX11_kindHere_47 : decode cX11_kindHere 47 = .ok (.ireturn, 1) := by decide +kernel
theorem eX11_kindHere_48 : decode cX11_kindHere 48 = .ok (.aload_n 0, 1) := by decide +kernel
theorem eX11_kindHere_49 : decode cX11_kindHere 49 = .ok (.ldc2_w 269, 3) := by decide +kernel
theorem eX11_kindHere_52 : decode cX11_kindHere 52 = .ok (.invokevirtual 333, 3) := by decide +kernel
theorem eX11_kindHere_55 : decode cX11_kindHere 55 = .ok (.ifCond .eq 5, 3) := by decide +kernel
theorem eX11_kindHere_58 : decode cX11_kindHere 58 = .ok (.iconst 4, 1) := by decide +kernel
theorem eX11_kindHere_59 : decode cX11_kindHere 59 = .ok (.ireturn, 1) := by decide +kernel
theorem eX11_kindHere_60 : decode cX11_kindHere 60 = .ok (.aload_n 0, 1) := by decide +kernel
theorem eX11_kindHere_61 : decode cX11_kindHere 61 = .ok (.ldc2_w 271, 3) := by decide +kernel
theorem eX11_kindHere_64 : decode cX11_kindHere 64 = .ok (.invokevirtual 333, 3) := by decide +kernel
theorem eX11_kindHere_67 : decode cX11_kindHere 67 = .ok (.ifCond .eq 7, 3) := by decide +kernel
theorem eX11_kindHere_70 : decode cX11_kindHere 70 = .ok (.iconst 5, 1) := by decide +kernel
theorem eX11_kindHere_71 : decode cX11_kindHere 71 = .ok (.goto 4, 3) := by decide +kernel
theorem eX11_kindHere_74 : decode cX11_kindHere 74 = .ok (.iconst (-1), 1) := by decide +kernel
theorem eX11_kindHere_75 : decode cX11_kindHere 75 = .ok (.ireturn, 1) := by decide +kernel
def C_X11_kindHere (s : ST) (Q : ST → Int → Prop) : Prop := bx <| RA s → q_met mX11_kindHere (qs layM s) [.ref 139] (PI layM Q)
theorem C_X11_kindHere.mono {s : ST} {Q Q' : ST → Int → Prop} (h : C_X11_kindHere s Q) (hq : ∀ s v, Q s v → Q' s v) : C_X11_kindHere s Q' := ⟨fun hA => q_met.mono (h.1 hA) (fun _ _ => PI.mono hq), trivial⟩
set_option maxRecDepth 20000 in
theorem s_X11_kindHere {s : ST} {Q : ST → Int → Prop} (h : RA s → ((¬ (s.1 139 8 = 3 ∧ (s.2 139 10) = 7239021) → ((¬ (s.1 139 8 = 3 ∧ (s.2 139 10) = 500136506472) → ((¬ (s.1 139 8 = 3 ∧ (s.2 139 10) = 6385273) → ((¬ (s.1 139 8 = 3 ∧ (s.2 139 10) = 7499639) → ((¬ (s.1 139 8 = 3 ∧ (s.2 139 10) = 1651471464) → ((¬ (s.1 139 8 = 3 ∧ (s.2 139 10) = 1718775661) → Q s (-1)) ∧ ((s.1 139 8 = 3 ∧ (s.2 139 10) = 1718775661) → Q s 5))) ∧ ((s.1 139 8 = 3 ∧ (s.2 139 10) = 1651471464) → Q s 4))) ∧ ((s.1 139 8 = 3 ∧ (s.2 139 10) = 7499639) → Q s 3))) ∧ ((s.1 139 8 = 3 ∧ (s.2 139 10) = 6385273) → Q s 2))) ∧ ((s.1 139 8 = 3 ∧ (s.2 139 10) = 500136506472) → Q s 1))) ∧ ((s.1 139 8 = 3 ∧ (s.2 139 10) = 7239021) → Q s 0))) : C_X11_kindHere s Q := by
  refine ⟨?_, trivial⟩
  intro hA
  have h := h hA
  refine q_enter (by decide) (Nat.le_of_ble_eq_true rfl) ?_
  refine q_aload_n eX11_kindHere_0 rfl ?_
  refine q_ldc2 (v := 7239021) eX11_kindHere_1 nX11_261 ?_
  refine q_V1 (ci := 11) (n := 0) eX11_kindHere_4 DX11_isWord lX11_333 rfl (by decide) rfl rfl rfl rfl (p_X11_isWord hA) ?_
  rintro _ _ ⟨b1, rfl, rfl⟩
  refine q_iz_eq (tgt := 12) (a := (F_X11_isWord s 7239021)) eX11_kindHere_7 (by decide) (ofz (r01 b1)) (fun c7 => ?_) (fun c7 => ?_)
  · have h := h.1 (fun q => n_X11_isWord.mpr q c7)
    refine q_aload_n eX11_kindHere_12 rfl ?_
    refine q_ldc2 (v := 500136506472) eX11_kindHere_13 nX11_263 ?_
    refine q_V1 (ci := 11) (n := 0) eX11_kindHere_16 DX11_isWord lX11_333 rfl (by decide) rfl rfl rfl rfl (p_X11_isWord hA) ?_
    rintro _ _ ⟨b2, rfl, rfl⟩
    refine q_iz_eq (tgt := 24) (a := (F_X11_isWord s 500136506472)) eX11_kindHere_19 (by decide) (ofz (r01 b2)) (fun c19 => ?_) (fun c19 => ?_)
    · have h := h.1 (fun q => n_X11_isWord.mpr q c19)
      refine q_aload_n eX11_kindHere_24 rfl ?_
      refine q_ldc2 (v := 6385273) eX11_kindHere_25 nX11_265 ?_
      refine q_V1 (ci := 11) (n := 0) eX11_kindHere_28 DX11_isWord lX11_333 rfl (by decide) rfl rfl rfl rfl (p_X11_isWord hA) ?_
      rintro _ _ ⟨b3, rfl, rfl⟩
      refine q_iz_eq (tgt := 36) (a := (F_X11_isWord s 6385273)) eX11_kindHere_31 (by decide) (ofz (r01 b3)) (fun c31 => ?_) (fun c31 => ?_)
      · have h := h.1 (fun q => n_X11_isWord.mpr q c31)
        refine q_aload_n eX11_kindHere_36 rfl ?_
        refine q_ldc2 (v := 7499639) eX11_kindHere_37 nX11_267 ?_
        refine q_V1 (ci := 11) (n := 0) eX11_kindHere_40 DX11_isWord lX11_333 rfl (by decide) rfl rfl rfl rfl (p_X11_isWord hA) ?_
        rintro _ _ ⟨b4, rfl, rfl⟩
        refine q_iz_eq (tgt := 48) (a := (F_X11_isWord s 7499639)) eX11_kindHere_43 (by decide) (ofz (r01 b4)) (fun c43 => ?_) (fun c43 => ?_)
        · have h := h.1 (fun q => n_X11_isWord.mpr q c43)
          refine q_aload_n eX11_kindHere_48 rfl ?_
          refine q_ldc2 (v := 1651471464) eX11_kindHere_49 nX11_269 ?_
          refine q_V1 (ci := 11) (n := 0) eX11_kindHere_52 DX11_isWord lX11_333 rfl (by decide) rfl rfl rfl rfl (p_X11_isWord hA) ?_
          rintro _ _ ⟨b5, rfl, rfl⟩
          refine q_iz_eq (tgt := 60) (a := (F_X11_isWord s 1651471464)) eX11_kindHere_55 (by decide) (ofz (r01 b5)) (fun c55 => ?_) (fun c55 => ?_)
          · have h := h.1 (fun q => n_X11_isWord.mpr q c55)
            refine q_aload_n eX11_kindHere_60 rfl ?_
            refine q_ldc2 (v := 1718775661) eX11_kindHere_61 nX11_271 ?_
            refine q_V1 (ci := 11) (n := 0) eX11_kindHere_64 DX11_isWord lX11_333 rfl (by decide) rfl rfl rfl rfl (p_X11_isWord hA) ?_
            rintro _ _ ⟨b6, rfl, rfl⟩
            refine q_iz_eq (tgt := 74) (a := (F_X11_isWord s 1718775661)) eX11_kindHere_67 (by decide) (ofz (r01 b6)) (fun c67 => ?_) (fun c67 => ?_)
            · have h := h.1 (fun q => n_X11_isWord.mpr q c67)
              refine q_ic (v := Int32.ofInt (-1)) eX11_kindHere_74 rfl ?_
              exact q_iret eX11_kindHere_75 rfl ⟨_, _, rfl, hA, (r32l rfl), rfl, h⟩
            · have h := h.2 (n_X11_isWord.mp c67)
              refine q_ic (v := Int32.ofInt 5) eX11_kindHere_70 rfl ?_
              refine q_goto (tgt := 75) eX11_kindHere_71 (by decide) ?_
              exact q_iret eX11_kindHere_75 rfl ⟨_, _, rfl, hA, (r32l rfl), rfl, h⟩
          · have h := h.2 (n_X11_isWord.mp c55)
            refine q_ic (v := Int32.ofInt 4) eX11_kindHere_58 rfl ?_
            exact q_iret eX11_kindHere_59 rfl ⟨_, _, rfl, hA, (r32l rfl), rfl, h⟩
        · have h := h.2 (n_X11_isWord.mp c43)
          refine q_ic (v := Int32.ofInt 3) eX11_kindHere_46 rfl ?_
          exact q_iret eX11_kindHere_47 rfl ⟨_, _, rfl, hA, (r32l rfl), rfl, h⟩
      · have h := h.2 (n_X11_isWord.mp c31)
        refine q_ic (v := Int32.ofInt 2) eX11_kindHere_34 rfl ?_
        exact q_iret eX11_kindHere_35 rfl ⟨_, _, rfl, hA, (r32l rfl), rfl, h⟩
    · have h := h.2 (n_X11_isWord.mp c19)
      refine q_ic (v := Int32.ofInt 1) eX11_kindHere_22 rfl ?_
      exact q_iret eX11_kindHere_23 rfl ⟨_, _, rfl, hA, (r32l rfl), rfl, h⟩
  · have h := h.2 (n_X11_isWord.mp c7)
    refine q_ic (v := Int32.ofInt 0) eX11_kindHere_10 rfl ?_
    exact q_iret eX11_kindHere_11 rfl ⟨_, _, rfl, hA, (r32l rfl), rfl, h⟩
def F_X11_kindHere (s : ST) : Int := (if (s.1 139 8 = 3 ∧ (s.2 139 10) = 7239021) then 0 else (if (s.1 139 8 = 3 ∧ (s.2 139 10) = 500136506472) then 1 else (if (s.1 139 8 = 3 ∧ (s.2 139 10) = 6385273) then 2 else (if (s.1 139 8 = 3 ∧ (s.2 139 10) = 7499639) then 3 else (if (s.1 139 8 = 3 ∧ (s.2 139 10) = 1651471464) then 4 else (if (s.1 139 8 = 3 ∧ (s.2 139 10) = 1718775661) then 5 else (-1)))))))
theorem w_X11_kindHere {s : ST} : C_X11_kindHere s (fun s' v => s' = s ∧ v = F_X11_kindHere s) := by
  refine s_X11_kindHere (fun hA => ?_)
  refine ⟨fun e0 => ?_, fun e0 => ?_⟩
  · refine ⟨fun e1 => ?_, fun e1 => ?_⟩
    · refine ⟨fun e2 => ?_, fun e2 => ?_⟩
      · refine ⟨fun e3 => ?_, fun e3 => ?_⟩
        · refine ⟨fun e4 => ?_, fun e4 => ?_⟩
          · refine ⟨fun e5 => ?_, fun e5 => ?_⟩
            · exact ⟨rfl, by unfold F_X11_kindHere; rw [if_neg e0, if_neg e1, if_neg e2, if_neg e3, if_neg e4, if_neg e5]⟩
            · exact ⟨rfl, by unfold F_X11_kindHere; rw [if_neg e0, if_neg e1, if_neg e2, if_neg e3, if_neg e4, if_pos e5]⟩
          · exact ⟨rfl, by unfold F_X11_kindHere; rw [if_neg e0, if_neg e1, if_neg e2, if_neg e3, if_pos e4]⟩
        · exact ⟨rfl, by unfold F_X11_kindHere; rw [if_neg e0, if_neg e1, if_neg e2, if_pos e3]⟩
      · exact ⟨rfl, by unfold F_X11_kindHere; rw [if_neg e0, if_neg e1, if_pos e2]⟩
    · exact ⟨rfl, by unfold F_X11_kindHere; rw [if_neg e0, if_pos e1]⟩
  · exact ⟨rfl, by unfold F_X11_kindHere; rw [if_pos e0]⟩
theorem p_X11_kindHere {s : ST} : RA s → q_met mX11_kindHere (qs layM s) [.ref 139] (fun σ r => R32 (F_X11_kindHere s) ∧ σ = qs layM s ∧ r = some (.int (Int32.ofInt (F_X11_kindHere s)))) := fun hA => q_met.mono ((w_X11_kindHere).1 hA) (by
  rintro _ _ ⟨s1, v1, rfl, h1, h2, rfl, rfl, rfl⟩
  exact ⟨h2, rfl, rfl⟩)
theorem eX11_readKind_0 : decode cX11_readKind 0 = .ok (.aload_n 0, 1) := by decide +kernel
theorem eX11_readKind_1 : decode cX11_readKind 1 = .ok (.getfield 57, 3) := by decide +kernel
theorem eX11_readKind_4 : decode cX11_readKind 4 = .ok (.iload_n 1, 1) := by decide +kernel
theorem eX11_readKind_5 : decode cX11_readKind 5 = .ok (.aload_n 0, 1) := by decide +kernel
theorem eX11_readKind_6 : decode cX11_readKind 6 = .ok (.getfield 27, 3) := by decide +kernel
theorem eX11_readKind_9 : decode cX11_readKind 9 = .ok (.aload_n 0, 1) := by decide +kernel
theorem eX11_readKind_10 : decode cX11_readKind 10 = .ok (.getfield 324, 3) := by decide +kernel
theorem eX11_readKind_13 : decode cX11_readKind 13 = .ok (.iaload, 1) := by decide +kernel
theorem eX11_readKind_14 : decode cX11_readKind 14 = .ok (.iastore, 1) := by decide +kernel
theorem eX11_readKind_15 : decode cX11_readKind 15 = .ok (.iconst 1, 1) := by decide +kernel
theorem eX11_readKind_16 : decode cX11_readKind 16 = .ok (.istore_n 2, 1) := by decide +kernel
theorem eX11_readKind_17 : decode cX11_readKind 17 = .ok (.aload_n 0, 1) := by decide +kernel
theorem eX11_readKind_18 : decode cX11_readKind 18 = .ok (.invokevirtual 308, 3) := by decide +kernel
theorem eX11_readKind_21 : decode cX11_readKind 21 = .ok (.ifCond .eq 107, 3) := by decide +kernel
theorem eX11_readKind_24 : decode cX11_readKind 24 = .ok (.iload_n 2, 1) := by decide +kernel
theorem eX11_readKind_25 : decode cX11_readKind 25 = .ok (.ifCond .le 103, 3) := by decide +kernel
theorem eX11_readKind_28 : decode cX11_readKind 28 = .ok (.aload_n 0, 1) := by decide +kernel
theorem eX11_readKind_29 : decode cX11_readKind 29 = .ok (.invokevirtual 376, 3) := by decide +kernel
theorem eX11_readKind_32 : decode cX11_readKind 32 = .ok (.istore_n 3, 1) := by decide +kernel
theorem eX11_readKind_33 : decode cX11_readKind 33 = .ok (.iload_n 3, 1) := by decide +kernel
theorem eX11_readKind_34 : decode cX11_readKind 34 = .ok (.ifCond .lt 17, 3) := by decide +kernel
theorem eX11_readKind_37 : decode cX11_readKind 37 = .ok (.aload_n 0, 1) := by decide +kernel
theorem eX11_readKind_38 : decode cX11_readKind 38 = .ok (.getfield 27, 3) := by decide +kernel
theorem eX11_readKind_41 : decode cX11_readKind 41 = .ok (.aload_n 0, 1) := by decide +kernel
theorem eX11_readKind_42 : decode cX11_readKind 42 = .ok (.getfield 324, 3) := by decide +kernel
theorem eX11_readKind_45 : decode cX11_readKind 45 = .ok (.iaload, 1) := by decide +kernel
theorem eX11_readKind_46 : decode cX11_readKind 46 = .ok (.bipush 20, 2) := by decide +kernel
theorem eX11_readKind_48 : decode cX11_readKind 48 = .ok (.if_icmp .ne 7, 3) := by decide +kernel
theorem eX11_readKind_51 : decode cX11_readKind 51 = .ok (.aload_n 0, 1) := by decide +kernel
theorem eX11_readKind_52 : decode cX11_readKind 52 = .ok (.invokevirtual 315, 3) := by decide +kernel
theorem eX11_readKind_55 : decode cX11_readKind 55 = .ok (.aload_n 0, 1) := by decide +kernel
theorem eX11_readKind_56 : decode cX11_readKind 56 = .ok (.invokevirtual 308, 3) := by decide +kernel
theorem eX11_readKind_59 : decode cX11_readKind 59 = .ok (.ifCond .ne 4, 3) := by decide +kernel
theorem eX11_readKind_62 : decode cX11_readKind 62 = .ok (.return_, 1) := by decide +kernel
theorem eX11_readKind_63 : decode cX11_readKind 63 = .ok (.aload_n 0, 1) := by decide +kernel
theorem eX11_readKind_64 : decode cX11_readKind 64 = .ok (.getfield 63, 3) := by decide +kernel
theorem eX11_readKind_67 : decode cX11_readKind 67 = .ok (.bipush 20, 2) := by decide +kernel
theorem eX11_readKind_69 : decode cX11_readKind 69 = .ok (.aload_n 0, 1) := by decide +kernel
theorem eX11_readKind_70 : decode cX11_readKind 70 = .ok (.getfield 324, 3) := by decide +kernel
theorem eX11_readKind_73 : decode cX11_readKind 73 = .ok (.imul, 1) := by decide +kernel
theorem eX11_readKind_74 : decode cX11_readKind 74 = .ok (.aload_n 0, 1) := by decide +kernel
theorem eX11_readKind_75 : decode cX11_readKind 75 = .ok (.getfield 27, 3) := by decide +kernel
theorem eX11_readKind_78 : decode cX11_readKind 78 = .ok (.aload_n 0, 1) := by decide +kernel
theorem eX11_readKind_79 : decode cX11_readKind 79 = .ok (.getfield 324, 3) := by decide +kernel
theorem eX11_readKind_82 : decode cX11_readKind 82 = .ok (.iaload, 1) := by decide +kernel
theorem eX11_readKind_83 : decode cX11_readKind 83 = .ok (.iadd, 1) := by decide +kernel
theorem eX11_readKind_84 : decode cX11_readKind 84 = .ok (.iload_n 3, 1) := by decide +kernel
theorem eX11_readKind_85 : decode cX11_readKind 85 = .ok (.iastore, 1) := by decide +kernel
theorem eX11_readKind_86 : decode cX11_readKind 86 = .ok (.aload_n 0, 1) := by decide +kernel
theorem eX11_readKind_87 : decode cX11_readKind 87 = .ok (.getfield 27, 3) := by decide +kernel
theorem eX11_readKind_90 : decode cX11_readKind 90 = .ok (.aload_n 0, 1) := by decide +kernel
theorem eX11_readKind_91 : decode cX11_readKind 91 = .ok (.getfield 324, 3) := by decide +kernel
theorem eX11_readKind_94 : decode cX11_readKind 94 = .ok (.dup2, 1) := by decide +kernel
theorem eX11_readKind_95 : decode cX11_readKind 95 = .ok (.iaload, 1) := by decide +kernel
theorem eX11_readKind_96 : decode cX11_readKind 96 = .ok (.iconst 1, 1) := by decide +kernel
theorem eX11_readKind_97 : decode cX11_readKind 97 = .ok (.iadd, 1) := by decide +kernel
theorem eX11_readKind_98 : decode cX11_readKind 98 = .ok (.iastore, 1) := by decide +kernel
theorem eX11_readKind_99 : decode cX11_readKind 99 = .ok (.iload_n 2, 1) := by decide +kernel
theorem eX11_readKind_100 : decode cX11_readKind 100 = .ok (.iload_n 3, 1) := by decide +kernel
theorem eX11_readKind_101 : decode cX11_readKind 101 = .ok (.iconst 3, 1) := by decide +kernel
theorem eX11_readKind_102 : decode cX11_readKind 102 = .ok (.if_icmp .ge 7, 3) := by decide +kernel
theorem eX11_readKind_105 : decode cX11_readKind 105 = .ok (.iconst (-1), 1) := by decide +kernel
theorem eX11_readKind_106 : decode cX11_readKind 106 = .ok (.goto 13, 3) := by decide +kernel
theorem eX11_readKind_109 : decode cX11_readKind 109 = .ok (.iload_n 3, 1) := by decide +kernel
theorem eX11_readKind_110 : decode cX11_readKind 110 = .ok (.iconst 3, 1) := by decide +kernel
theorem eX11_readKind_111 : decode cX11_readKind 111 = .ok (.if_icmp .ne 7, 3) := by decide +kernel
theorem eX11_readKind_114 : decode cX11_readKind 114 = .ok (.iconst 0, 1) := by decide +kernel
theorem eX11_readKind_115 : decode cX11_readKind 115 = .ok (.goto 4, 3) := by decide +kernel
theorem eX11_readKind_118 : decode cX11_readKind 118 = .ok (.iconst 1, 1) := by decide +kernel
theorem eX11_readKind_119 : decode cX11_readKind 119 = .ok (.iadd, 1) := by decide +kernel
theorem eX11_readKind_120 : decode cX11_readKind 120 = .ok (.istore_n 2, 1) := by decide +kernel
theorem eX11_readKind_121 : decode cX11_readKind 121 = .ok (.aload_n 0, 1) := by decide +kernel
theorem eX11_readKind_122 : decode cX11_readKind 122 = .ok (.invokevirtual 312, 3) := by decide +kernel
theorem eX11_readKind_125 : decode cX11_readKind 125 = .ok (.goto (-108), 3) := by decide +kernel
theorem eX11_readKind_128 : decode cX11_readKind 128 = .ok (.aload_n 0, 1) := by decide +kernel
theorem eX11_readKind_129 : decode cX11_readKind 129 = .ok (.getfield 60, 3) := by decide +kernel
theorem eX11_readKind_132 : decode cX11_readKind 132 = .ok (.iload_n 1, 1) := by decide +kernel
theorem eX11_readKind_133 : decode cX11_readKind 133 = .ok (.aload_n 0, 1) := by decide +kernel
theorem eX11_readKind_134 : decode cX11_readKind 134 = .ok (.getfield 27, 3) := by decide +kernel
theorem eX11_readKind_137 : decode cX11_readKind 137 = .ok (.aload_n 0, 1) := by decide +kernel
theorem eX11_readKind_138 : decode cX11_readKind 138 = .ok (.getfield 324, 3) := by decide +kernel
theorem eX11_readKind_141 : decode cX11_readKind 141 = .ok (.iaload, 1) := by decide +kernel
theorem eX11_readKind_142 : decode cX11_readKind 142 = .ok (.aload_n 0, 1) := by decide +kernel
theorem eX11_readKind_143 : decode cX11_readKind 143 = .ok (.getfield 57, 3) := by decide +kernel
theorem eX11_readKind_146 : decode cX11_readKind 146 = .ok (.iload_n 1, 1) := by decide +kernel
theorem eX11_readKind_147 : decode cX11_readKind 147 = .ok (.iaload, 1) := by decide +kernel
theorem eX11_readKind_148 : decode cX11_readKind 148 = .ok (.isub, 1) := by decide +kernel
theorem eX11_readKind_149 : decode cX11_readKind 149 = .ok (.iastore, 1) := by decide +kernel
theorem eX11_readKind_150 : decode cX11_readKind 150 = .ok (.return_, 1) := by decide +kernel
def C_X11_readKind (s : ST) (p : Int) (Q : ST → Prop) : Prop := bx <| RA s → R32 p → q_met mX11_readKind (qs layM s) [.ref 139, .int (Int32.ofInt p)] (PV layM Q)
theorem C_X11_readKind.mono {s : ST} {p : Int} {Q Q' : ST → Prop} (h : C_X11_readKind s p Q) (hq : ∀ s, Q s → Q' s) : C_X11_readKind s p Q' := ⟨fun hA hrp => q_met.mono (h.1 hA hrp) (fun _ _ => PV.mono hq), trivial⟩
def K_X11_readKind_128 (s : ST) (a1 : Int) (Q : ST → Prop) : Prop := bx <| RA s → R32 a1 → q_K mX11_readKind (qs layM s) 0 0 128 [(0, .ref 139), (1, .int (Int32.ofInt a1))] [] (q_fin mX11_readKind (PV layM Q))
def K_X11_readKind_119 (s : ST) (a1 : Int) (t0 : Int) (t1 : Int) (Q : ST → Prop) : Prop := bx <| RA s → R32 a1 → R32 t0 → R32 t1 → q_K mX11_readKind (qs layM s) 0 0 119 [(0, .ref 139), (1, .int (Int32.ofInt a1))] [.int (Int32.ofInt t1), .int (Int32.ofInt t0)] (q_fin mX11_readKind (PV layM Q))
def K_X11_readKind_55 (s : ST) (a1 : Int) (a2 : Int) (a3 : Int) (Q : ST → Prop) : Prop := bx <| RA s → R32 a1 → R32 a2 → R32 a3 → q_K mX11_readKind (qs layM s) 0 0 55 [(0, .ref 139), (1, .int (Int32.ofInt a1)), (2, .int (Int32.ofInt a2)), (3, .int (Int32.ofInt a3))] [] (q_fin mX11_readKind (PV layM Q))
def K_X11_readKind_51 (s : ST) (a1 : Int) (a2 : Int) (a3 : Int) (Q : ST → Prop) : Prop := bx <| RA s → R32 a1 → R32 a2 → R32 a3 → q_K mX11_readKind (qs layM s) 0 0 51 [(0, .ref 139), (1, .int (Int32.ofInt a1)), (2, .int (Int32.ofInt a2)), (3, .int (Int32.ofInt a3))] [] (q_fin mX11_readKind (PV layM Q))
def K_X11_readKind_17 (s : ST) (a1 : Int) (a2 : Int) (Q : ST → Prop) : Prop := bx <| RA s → R32 a1 → R32 a2 → q_K mX11_readKind (qs layM s) 0 0 17 [(0, .ref 139), (1, .int (Int32.ofInt a1)), (2, .int (Int32.ofInt a2))] [] (q_fin mX11_readKind (PV layM Q))
set_option maxRecDepth 20000 in
theorem s_X11_readKind_128 {s : ST} {a1 : Int} {Q : ST → Prop} (h : RA s → R32 a1 → (((0 : Int) ≤ s.1 139 29 ∧ s.1 139 29 < 6) ∧ (((0 : Int) ≤ a1 ∧ a1 < 240) ∧ (R32 (s.1 144 (s.1 139 29) - s.1 154 a1) ∧ Q (ui s 155 a1 (s.1 144 (s.1 139 29) - s.1 154 a1)))))) : K_X11_readKind_128 s a1 Q := by
  refine ⟨?_, trivial⟩
  intro hA hra1
  have h := h hA hra1
  refine q_aload_n eX11_readKind_128 rfl ?_
  refine q_getR (c := 11) (n := 0) (k := 24) (a := 155) eX11_readKind_129 rfl (by decide) (by decide) fX11_60 rfl rfl ?_
  refine q_iload_n eX11_readKind_132 rfl ?_
  refine q_aload_n eX11_readKind_133 rfl ?_
  refine q_getR (c := 11) (n := 0) (k := 13) (a := 144) eX11_readKind_134 rfl (by decide) (by decide) fX11_27 rfl rfl ?_
  refine q_aload_n eX11_readKind_137 rfl ?_
  refine q_getf (c := 11) (n := 0) (k := 29) (v := .int (Int32.ofInt (s.1 139 29))) eX11_readKind_138 rfl (by decide) (by decide) fX11_324 rfl ?_
  have f1 := h.1
  have h := h.2
  refine z_iald (n := 6) eX11_readKind_141 rfl (ofz (hA _ _)) f1 ?_
  refine q_topI (v := Int32.ofInt (s.1 144 (s.1 139 29))) rfl ?_
  refine q_aload_n eX11_readKind_142 rfl ?_
  refine q_getR (c := 11) (n := 0) (k := 23) (a := 154) eX11_readKind_143 rfl (by decide) (by decide) fX11_57 rfl rfl ?_
  refine q_iload_n eX11_readKind_146 rfl ?_
  have f2 := h.1
  have h := h.2
  refine z_iald (n := 240) eX11_readKind_147 rfl (ofz hra1) f2 ?_
  refine q_topI (v := Int32.ofInt (s.1 154 a1)) rfl ?_
  refine z_isub eX11_readKind_148 ?_
  have r3 := h.1
  have h := h.2
  refine z_iast (n := 240) eX11_readKind_149 rfl (ofz hra1) f2  ?_
  exact q_ret eX11_readKind_150 rfl ⟨_, rfl, (ra_ui hA r3), rfl, h⟩
set_option maxRecDepth 20000 in
theorem s_X11_readKind_119 {s : ST} {a1 : Int} {t0 : Int} {t1 : Int} {Q : ST → Prop} (h : RA s → R32 a1 → R32 t0 → R32 t1 → (R32 (t0 + t1) ∧ (C_X11_goOn s (fun s2 => K_X11_readKind_17 s2 a1 (t0 + t1) Q)))) : K_X11_readKind_119 s a1 t0 t1 Q := by
  refine ⟨?_, trivial⟩
  intro hA hra1 hrt0 hrt1
  have h := h hA hra1 hrt0 hrt1
  refine z_iadd eX11_readKind_119 ?_
  have r1 := h.1
  have h := h.2
  refine q_istore_n eX11_readKind_120 (Nat.le_of_ble_eq_true rfl) ?_
  refine q_aload_n eX11_readKind_121 rfl ?_
  refine q_V0 (ci := 11) (n := 0) eX11_readKind_122 DX11_goOn lX11_312 rfl (by decide) rfl rfl rfl rfl (h.1 hA) ?_
  rintro _ _ ⟨s2, rfl, hA2, rfl, h⟩
  refine q_goto (tgt := 17) eX11_readKind_125 (by decide) ?_
  exact q_subL rfl (h.1 hA2 hra1 r1)
set_option maxRecDepth 20000 in
theorem s_X11_readKind_55 {s : ST} {a1 : Int} {a2 : Int} {a3 : Int} {Q : ST → Prop} (h : RA s → R32 a1 → R32 a2 → R32 a3 → (((s.1 139 4 = 0) → (R32 (20 * s.1 139 29) ∧ (((0 : Int) ≤ s.1 139 29 ∧ s.1 139 29 < 6) ∧ (R32 ((20 * s.1 139 29) + s.1 144 (s.1 139 29)) ∧ (((0 : Int) ≤ ((20 * s.1 139 29) + s.1 144 (s.1 139 29)) ∧ ((20 * s.1 139 29) + s.1 144 (s.1 139 29)) < 120) ∧ (R32 (s.1 144 (s.1 139 29) + 1) ∧ ((3 ≤ a3 → ((¬ a3 = 3 → K_X11_readKind_119 (ui (ui s 156 ((20 * s.1 139 29) + s.1 144 (s.1 139 29)) a3) 144 (s.1 139 29) (s.1 144 (s.1 139 29) + 1)) a1 a2 1 Q) ∧ (a3 = 3 → K_X11_readKind_119 (ui (ui s 156 ((20 * s.1 139 29) + s.1 144 (s.1 139 29)) a3) 144 (s.1 139 29) (s.1 144 (s.1 139 29) + 1)) a1 a2 0 Q))) ∧ (¬ 3 ≤ a3 → K_X11_readKind_119 (ui (ui s 156 ((20 * s.1 139 29) + s.1 144 (s.1 139 29)) a3) 144 (s.1 139 29) (s.1 144 (s.1 139 29) + 1)) a1 a2 (-1) Q)))))))) ∧ (¬ (s.1 139 4 = 0) → Q s))) : K_X11_readKind_55 s a1 a2 a3 Q := by
  refine ⟨?_, trivial⟩
  intro hA hra1 hra2 hra3
  have h := h hA hra1 hra2 hra3
  refine q_aload_n eX11_readKind_55 rfl ?_
  refine q_V0 (ci := 11) (n := 0) eX11_readKind_56 DX11_isGood lX11_308 rfl (by decide) rfl rfl rfl rfl (p_X11_isGood hA) ?_
  rintro _ _ ⟨b1, rfl, rfl⟩
  refine q_iz_ne (tgt := 63) (a := (F_X11_isGood s)) eX11_readKind_59 (by decide) (ofz (r01 b1)) (fun c59 => ?_) (fun c59 => ?_)
  · have h := h.1 (n_X11_isGood.mp c59)
    refine q_aload_n eX11_readKind_63 rfl ?_
    refine q_getR (c := 11) (n := 0) (k := 25) (a := 156) eX11_readKind_64 rfl (by decide) (by decide) fX11_63 rfl rfl ?_
    refine q_bi (v := Int32.ofInt 20) eX11_readKind_67 rfl ?_
    refine q_aload_n eX11_readKind_69 rfl ?_
    refine q_getf (c := 11) (n := 0) (k := 29) (v := .int (Int32.ofInt (s.1 139 29))) eX11_readKind_70 rfl (by decide) (by decide) fX11_324 rfl ?_
    refine z_imul eX11_readKind_73 ?_
    have r2 := h.1
    have h := h.2
    refine q_aload_n eX11_readKind_74 rfl ?_
    refine q_getR (c := 11) (n := 0) (k := 13) (a := 144) eX11_readKind_75 rfl (by decide) (by decide) fX11_27 rfl rfl ?_
    refine q_aload_n eX11_readKind_78 rfl ?_
    refine q_getf (c := 11) (n := 0) (k := 29) (v := .int (Int32.ofInt (s.1 139 29))) eX11_readKind_79 rfl (by decide) (by decide) fX11_324 rfl ?_
    have f3 := h.1
    have h := h.2
    refine z_iald (n := 6) eX11_readKind_82 rfl (ofz (hA _ _)) f3 ?_
    refine q_topI (v := Int32.ofInt (s.1 144 (s.1 139 29))) rfl ?_
    refine z_iadd eX11_readKind_83 ?_
    have r4 := h.1
    have h := h.2
    refine q_iload_n eX11_readKind_84 rfl ?_
    have f5 := h.1
    have h := h.2
    refine z_iast (n := 120) eX11_readKind_85 rfl (ofz r4) f5  ?_
    refine q_aload_n eX11_readKind_86 rfl ?_
    refine q_getR (c := 11) (n := 0) (k := 13) (a := 144) eX11_readKind_87 rfl (by decide) (by decide) fX11_27 rfl rfl ?_
    refine q_aload_n eX11_readKind_90 rfl ?_
    refine q_getf (c := 11) (n := 0) (k := 29) (v := .int (Int32.ofInt (s.1 139 29))) eX11_readKind_91 rfl (by decide) (by decide) fX11_324 rfl ?_
    refine q_dup2 eX11_readKind_94 rfl rfl ?_
    refine z_iald (n := 6) eX11_readKind_95 rfl (ofz (hA _ _)) f3 ?_
    refine q_topI (v := Int32.ofInt (s.1 144 (s.1 139 29))) rfl ?_
    refine q_ic (v := Int32.ofInt 1) eX11_readKind_96 rfl ?_
    refine z_iadd eX11_readKind_97 ?_
    have r6 := h.1
    have h := h.2
    refine z_iast (n := 6) eX11_readKind_98 rfl (ofz (hA _ _)) f3  ?_
    refine q_iload_n eX11_readKind_99 rfl ?_
    refine q_iload_n eX11_readKind_100 rfl ?_
    refine q_ic (v := Int32.ofInt 3) eX11_readKind_101 rfl ?_
    refine q_cz_ge (tgt := 109) (a := a3) (b := 3) eX11_readKind_102 (by decide) (ofz hra3) (ofz (r32l rfl)) (fun c102 => ?_) (fun c102 => ?_)
    · have h := h.1 c102
      refine q_iload_n eX11_readKind_109 rfl ?_
      refine q_ic (v := Int32.ofInt 3) eX11_readKind_110 rfl ?_
      refine q_cz_ne (tgt := 118) (a := a3) (b := 3) eX11_readKind_111 (by decide) (ofz hra3) (ofz (r32l rfl)) (fun c111 => ?_) (fun c111 => ?_)
      · have h := h.1 c111
        refine q_ic (v := Int32.ofInt 1) eX11_readKind_118 rfl ?_
        exact q_subL rfl (h.1 (ra_ui (ra_ui hA hra3) r6) hra1 hra2 (r32l rfl))
      · have h := h.2 c111
        refine q_ic (v := Int32.ofInt 0) eX11_readKind_114 rfl ?_
        refine q_goto (tgt := 119) eX11_readKind_115 (by decide) ?_
        exact q_subL rfl (h.1 (ra_ui (ra_ui hA hra3) r6) hra1 hra2 (r32l rfl))
    · have h := h.2 c102
      refine q_ic (v := Int32.ofInt (-1)) eX11_readKind_105 rfl ?_
      refine q_goto (tgt := 119) eX11_readKind_106 (by decide) ?_
      exact q_subL rfl (h.1 (ra_ui (ra_ui hA hra3) r6) hra1 hra2 (r32l rfl))
  · have h := h.2 (fun q => n_X11_isGood.mpr q c59)
    exact q_ret eX11_readKind_62 rfl ⟨_, rfl, hA, rfl, h⟩
set_option maxRecDepth 20000 in
theorem s_X11_readKind_51 {s : ST} {a1 : Int} {a2 : Int} {a3 : Int} {Q : ST → Prop} (h : RA s → R32 a1 → R32 a2 → R32 a3 → (C_X11_misplaced s (fun s1 => K_X11_readKind_55 s1 a1 a2 a3 Q))) : K_X11_readKind_51 s a1 a2 a3 Q := by
  refine ⟨?_, trivial⟩
  intro hA hra1 hra2 hra3
  have h := h hA hra1 hra2 hra3
  refine q_aload_n eX11_readKind_51 rfl ?_
  refine q_V0 (ci := 11) (n := 0) eX11_readKind_52 DX11_misplaced lX11_315 rfl (by decide) rfl rfl rfl rfl (h.1 hA) ?_
  rintro _ _ ⟨s1, rfl, hA1, rfl, h⟩
  exact q_subL rfl (h.1 hA1 hra1 hra2 hra3)
set_option maxRecDepth 20000 in
theorem s_X11_readKind_17 {s : ST} {a1 : Int} {a2 : Int} {Q : ST → Prop} (h : RA s → R32 a1 → R32 a2 → ((¬ (s.1 139 4 = 0) → K_X11_readKind_128 s a1 Q) ∧ ((s.1 139 4 = 0) → ((a2 ≤ 0 → K_X11_readKind_128 s a1 Q) ∧ (¬ a2 ≤ 0 → (((F_X11_kindHere s) < 0 → K_X11_readKind_51 s a1 a2 (F_X11_kindHere s) Q) ∧ (¬ (F_X11_kindHere s) < 0 → (((0 : Int) ≤ s.1 139 29 ∧ s.1 139 29 < 6) ∧ ((¬ s.1 144 (s.1 139 29) = 20 → K_X11_readKind_55 s a1 a2 (F_X11_kindHere s) Q) ∧ (s.1 144 (s.1 139 29) = 20 → K_X11_readKind_51 s a1 a2 (F_X11_kindHere s) Q)))))))))) : K_X11_readKind_17 s a1 a2 Q := by
  refine ⟨?_, trivial⟩
  intro hA hra1 hra2
  have h := h hA hra1 hra2
  refine q_aload_n eX11_readKind_17 rfl ?_
  refine q_V0 (ci := 11) (n := 0) eX11_readKind_18 DX11_isGood lX11_308 rfl (by decide) rfl rfl rfl rfl (p_X11_isGood hA) ?_
  rintro _ _ ⟨b1, rfl, rfl⟩
  refine q_iz_eq (tgt := 128) (a := (F_X11_isGood s)) eX11_readKind_21 (by decide) (ofz (r01 b1)) (fun c21 => ?_) (fun c21 => ?_)
  · have h := h.1 (fun q => n_X11_isGood.mpr q c21)
    exact q_subL rfl (h.1 hA hra1)
  · have h := h.2 (n_X11_isGood.mp c21)
    refine q_iload_n eX11_readKind_24 rfl ?_
    refine q_iz_le (tgt := 128) (a := a2) eX11_readKind_25 (by decide) (ofz hra2) (fun c25 => ?_) (fun c25 => ?_)
    · have h := h.1 c25
      exact q_subL rfl (h.1 hA hra1)
    · have h := h.2 c25
      refine q_aload_n eX11_readKind_28 rfl ?_
      refine q_V0 (ci := 11) (n := 0) eX11_readKind_29 DX11_kindHere lX11_376 rfl (by decide) rfl rfl rfl rfl (p_X11_kindHere hA) ?_
      rintro _ _ ⟨r2, rfl, rfl⟩
      refine q_istore_n eX11_readKind_32 (Nat.le_of_ble_eq_true rfl) ?_
      refine q_iload_n eX11_readKind_33 rfl ?_
      refine q_iz_lt (tgt := 51) (a := (F_X11_kindHere s)) eX11_readKind_34 (by decide) (ofz r2) (fun c34 => ?_) (fun c34 => ?_)
      · have h := h.1 c34
        exact q_subL rfl (h.1 hA hra1 hra2 r2)
      · have h := h.2 c34
        refine q_aload_n eX11_readKind_37 rfl ?_
        refine q_getR (c := 11) (n := 0) (k := 13) (a := 144) eX11_readKind_38 rfl (by decide) (by decide) fX11_27 rfl rfl ?_
        refine q_aload_n eX11_readKind_41 rfl ?_
        refine q_getf (c := 11) (n := 0) (k := 29) (v := .int (Int32.ofInt (s.1 139 29))) eX11_readKind_42 rfl (by decide) (by decide) fX11_324 rfl ?_
        have f3 := h.1
        have h := h.2
        refine z_iald (n := 6) eX11_readKind_45 rfl (ofz (hA _ _)) f3 ?_
        refine q_topI (v := Int32.ofInt (s.1 144 (s.1 139 29))) rfl ?_
        refine q_bi (v := Int32.ofInt 20) eX11_readKind_46 rfl ?_
        refine q_cz_ne (tgt := 55) (a := s.1 144 (s.1 139 29)) (b := 20) eX11_readKind_48 (by decide) (ofz (hA _ _)) (ofz (r32l rfl)) (fun c48 => ?_) (fun c48 => ?_)
        · have h := h.1 c48
          exact q_subL rfl (h.1 hA hra1 hra2 r2)
        · have h := h.2 c48
          exact q_subL rfl (h.1 hA hra1 hra2 r2)
set_option maxRecDepth 20000 in
theorem s_X11_readKind {s : ST} {p : Int} {Q : ST → Prop} (h : RA s → R32 p → (((0 : Int) ≤ s.1 139 29 ∧ s.1 139 29 < 6) ∧ (((0 : Int) ≤ p ∧ p < 240) ∧ K_X11_readKind_17 (ui s 154 p (s.1 144 (s.1 139 29))) p 1 Q))) : C_X11_readKind s p Q := by
  refine ⟨?_, trivial⟩
  intro hA hrp
  have h := h hA hrp
  refine q_enter (by decide) (Nat.le_of_ble_eq_true rfl) ?_
  refine q_aload_n eX11_readKind_0 rfl ?_
  refine q_getR (c := 11) (n := 0) (k := 23) (a := 154) eX11_readKind_1 rfl (by decide) (by decide) fX11_57 rfl rfl ?_
  refine q_iload_n eX11_readKind_4 rfl ?_
  refine q_aload_n eX11_readKind_5 rfl ?_
  refine q_getR (c := 11) (n := 0) (k := 13) (a := 144) eX11_readKind_6 rfl (by decide) (by decide) fX11_27 rfl rfl ?_
  refine q_aload_n eX11_readKind_9 rfl ?_
  refine q_getf (c := 11) (n := 0) (k := 29) (v := .int (Int32.ofInt (s.1 139 29))) eX11_readKind_10 rfl (by decide) (by decide) fX11_324 rfl ?_
  have f1 := h.1
  have h := h.2
  refine z_iald (n := 6) eX11_readKind_13 rfl (ofz (hA _ _)) f1 ?_
  refine q_topI (v := Int32.ofInt (s.1 144 (s.1 139 29))) rfl ?_
  have f2 := h.1
  have h := h.2
  refine z_iast (n := 240) eX11_readKind_14 rfl (ofz hrp) f2  ?_
  refine q_ic (v := Int32.ofInt 1) eX11_readKind_15 rfl ?_
  refine q_istore_n eX11_readKind_16 (Nat.le_of_ble_eq_true rfl) ?_
  exact q_subL rfl (h.1 (ra_ui hA (hA _ _)) hrp (r32l rfl))
theorem eX11_beginsPlace_0 : decode cX11_beginsPlace 0 = .ok (.aload_n 0, 1) := by decide +kernel
theorem eX11_beginsPlace_1 : decode cX11_beginsPlace 1 = .ok (.invokevirtual 352, 3) := by decide +kernel
theorem eX11_beginsPlace_4 : decode cX11_beginsPlace 4 = .ok (.istore_n 1, 1) := by decide +kernel
theorem eX11_beginsPlace_5 : decode cX11_beginsPlace 5 = .ok (.iload_n 1, 1) := by decide +kernel
theorem eX11_beginsPlace_6 : decode cX11_beginsPlace 6 = .ok (.ifCond .lt 26, 3) := by decide +kernel
theorem eX11_beginsPlace_9 : decode cX11_beginsPlace 9 = .ok (.aload_n 0, 1) := by decide +kernel
theorem eX11_beginsPlace_10 : decode cX11_beginsPlace 10 = .ok (.getfield 20, 3) := by decide +kernel
theorem eX11_beginsPlace_13 : decode cX11_beginsPlace 13 = .ok (.aload_n 0, 1) := by decide +kernel
theorem eX11_beginsPlace_14 : decode cX11_beginsPlace 14 = .ok (.getfield 324, 3) := by decide +kernel
theorem eX11_beginsPlace_17 : decode cX11_beginsPlace 17 = .ok (.iaload, 1) := by decide +kernel
theorem eX11_beginsPlace_18 : decode cX11_beginsPlace 18 = .ok (.bipush 40, 2) := by decide +kernel
theorem eX11_beginsPlace_20 : decode cX11_beginsPlace 20 = .ok (.if_icmp .eq 12, 3) := by decide +kernel
theorem eX11_beginsPlace_23 : decode cX11_beginsPlace 23 = .ok (.aload_n 0, 1) := by decide +kernel
theorem eX11_beginsPlace_24 : decode cX11_beginsPlace 24 = .ok (.getfield 343, 3) := by decide +kernel
theorem eX11_beginsPlace_27 : decode cX11_beginsPlace 27 = .ok (.bipush 20, 2) := by decide +kernel
theorem eX11_beginsPlace_29 : decode cX11_beginsPlace 29 = .ok (.if_icmp .le 7, 3) := by decide +kernel
theorem eX11_beginsPlace_32 : decode cX11_beginsPlace 32 = .ok (.aload_n 0, 1) := by decide +kernel
theorem eX11_beginsPlace_33 : decode cX11_beginsPlace 33 = .ok (.invokevirtual 315, 3) := by decide +kernel
theorem eX11_beginsPlace_36 : decode cX11_beginsPlace 36 = .ok (.aload_n 0, 1) := by decide +kernel
theorem eX11_beginsPlace_37 : decode cX11_beginsPlace 37 = .ok (.invokevirtual 308, 3) := by decide +kernel
theorem eX11_beginsPlace_40 : decode cX11_beginsPlace 40 = .ok (.ifCond .ne 5, 3) := by decide +kernel
theorem eX11_beginsPlace_43 : decode cX11_beginsPlace 43 = .ok (.iconst 0, 1) := by decide +kernel
theorem eX11_beginsPlace_44 : decode cX11_beginsPlace 44 = .ok (.ireturn, 1) := by decide +kernel
theorem eX11_beginsPlace_45 : decode cX11_beginsPlace 45 = .ok (.aload_n 0, 1) := by decide +kernel
theorem eX11_beginsPlace_46 : decode cX11_beginsPlace 46 = .ok (.getfield 20, 3) := by decide +kernel
theorem eX11_beginsPlace_49 : decode cX11_beginsPlace 49 = .ok (.aload_n 0, 1) := by decide +kernel
theorem eX11_beginsPlace_50 : decode cX11_beginsPlace 50 = .ok (.getfield 324, 3) := by decide +kernel
theorem eX11_beginsPlace_53 : decode cX11_beginsPlace 53 = .ok (.iaload, 1) := by decide +kernel
theorem eX11_beginsPlace_54 : decode cX11_beginsPlace 54 = .ok (.istore_n 2, 1) := by decide +kernel
theorem eX11_beginsPlace_55 : decode cX11_beginsPlace 55 = .ok (.bipush 40, 2) := by decide +kernel
theorem eX11_beginsPlace_57 : decode cX11_beginsPlace 57 = .ok (.aload_n 0, 1) := by decide +kernel
theorem eX11_beginsPlace_58 : decode cX11_beginsPlace 58 = .ok (.getfield 324, 3) := by decide +kernel
theorem eX11_beginsPlace_61 : decode cX11_beginsPlace 61 = .ok (.imul, 1) := by decide +kernel
theorem eX11_beginsPlace_62 : decode cX11_beginsPlace 62 = .ok (.iload_n 2, 1) := by decide +kernel
theorem eX11_beginsPlace_63 : decode cX11_beginsPlace 63 = .ok (.iadd, 1) := by decide +kernel
theorem eX11_beginsPlace_64 : decode cX11_beginsPlace 64 = .ok (.istore_n 3, 1) := by decide +kernel
theorem eX11_beginsPlace_65 : decode cX11_beginsPlace 65 = .ok (.aload_n 0, 1) := by decide +kernel
theorem eX11_beginsPlace_66 : decode cX11_beginsPlace 66 = .ok (.getfield 20, 3) := by decide +kernel
theorem eX11_beginsPlace_69 : decode cX11_beginsPlace 69 = .ok (.aload_n 0, 1) := by decide +kernel
theorem eX11_beginsPlace_70 : decode cX11_beginsPlace 70 = .ok (.getfield 324, 3) := by decide +kernel
theorem eX11_beginsPlace_73 : decode cX11_beginsPlace 73 = .ok (.dup2, 1) := by decide +kernel
theorem eX11_beginsPlace_74 : decode cX11_beginsPlace 74 = .ok (.iaload, 1) := by decide +kernel
theorem eX11_beginsPlace_75 : decode cX11_beginsPlace 75 = .ok (.iconst 1, 1) := by decide +kernel
theorem eX11_beginsPlace_76 : decode cX11_beginsPlace 76 = .ok (.iadd, 1) := by decide +kernel
theorem eX11_beginsPlace_77 : decode cX11_beginsPlace 77 = .ok (.iastore, 1) := by decide +kernel
theorem eX11_beginsPlace_78 : decode cX11_beginsPlace 78 = .ok (.aload_n 0, 1) := by decide +kernel
theorem eX11_beginsPlace_79 : decode cX11_beginsPlace 79 = .ok (.getfield 33, 3) := by decide +kernel
theorem eX11_beginsPlace_82 : decode cX11_beginsPlace 82 = .ok (.iload_n 3, 1) := by decide +kernel
theorem eX11_beginsPlace_83 : decode cX11_beginsPlace 83 = .ok (.iload_n 1, 1) := by decide +kernel
theorem eX11_beginsPlace_84 : decode cX11_beginsPlace 84 = .ok (.iastore, 1) := by decide +kernel
theorem eX11_beginsPlace_85 : decode cX11_beginsPlace 85 = .ok (.aload_n 0, 1) := by decide +kernel
theorem eX11_beginsPlace_86 : decode cX11_beginsPlace 86 = .ok (.getfield 39, 3) := by decide +kernel
theorem eX11_beginsPlace_89 : decode cX11_beginsPlace 89 = .ok (.iload_n 3, 1) := by decide +kernel
theorem eX11_beginsPlace_90 : decode cX11_beginsPlace 90 = .ok (.aload_n 0, 1) := by decide +kernel
theorem eX11_beginsPlace_91 : decode cX11_beginsPlace 91 = .ok (.getfield 276, 3) := by decide +kernel
theorem eX11_beginsPlace_94 : decode cX11_beginsPlace 94 = .ok (.iastore, 1) := by decide +kernel
theorem eX11_beginsPlace_95 : decode cX11_beginsPlace 95 = .ok (.aload_n 0, 1) := by decide +kernel
theorem eX11_beginsPlace_96 : decode cX11_beginsPlace 96 = .ok (.getfield 42, 3) := by decide +kernel
theorem eX11_beginsPlace_99 : decode cX11_beginsPlace 99 = .ok (.iload_n 3, 1) := by decide +kernel
theorem eX11_beginsPlace_100 : decode cX11_beginsPlace 100 = .ok (.aload_n 0, 1) := by decide +kernel
theorem eX11_beginsPlace_101 : decode cX11_beginsPlace 101 = .ok (.getfield 24, 3) := by decide +kernel
theorem eX11_beginsPlace_104 : decode cX11_beginsPlace 104 = .ok (.aload_n 0, 1) := by decide +kernel
theorem eX11_beginsPlace_105 : decode cX11_beginsPlace 105 = .ok (.getfield 324, 3) := by decide +kernel
theorem eX11_beginsPlace_108 : decode cX11_beginsPlace 108 = .ok (.iaload, 1) := by decide +kernel
theorem eX11_beginsPlace_109 : decode cX11_beginsPlace 109 = .ok (.iastore, 1) := by decide +kernel
theorem eX11_beginsPlace_110 : decode cX11_beginsPlace 110 = .ok (.aload_n 0, 1) := by decide +kernel
theorem eX11_beginsPlace_111 : decode cX11_beginsPlace 111 = .ok (.getfield 36, 3) := by decide +kernel
theorem eX11_beginsPlace_114 : decode cX11_beginsPlace 114 = .ok (.iload_n 3, 1) := by decide +kernel
theorem eX11_beginsPlace_115 : decode cX11_beginsPlace 115 = .ok (.iload_n 1, 1) := by decide +kernel
theorem eX11_beginsPlace_116 : decode cX11_beginsPlace 116 = .ok (.ifCond .ne 10, 3) := by decide +kernel
theorem eX11_beginsPlace_119 : decode cX11_beginsPlace 119 = .ok (.aload_n 0, 1) := by decide +kernel
theorem eX11_beginsPlace_120 : decode cX11_beginsPlace 120 = .ok (.getfield 301, 3) := by decide +kernel
theorem eX11_beginsPlace_123 : decode cX11_beginsPlace 123 = .ok (.goto 24, 3) := by decide +kernel
theorem eX11_beginsPlace_126 : decode cX11_beginsPlace 126 = .ok (.iload_n 1, 1) := by decide +kernel
theorem eX11_beginsPlace_127 : decode cX11_beginsPlace 127 = .ok (.iconst 1, 1) := by decide +kernel
theorem eX11_beginsPlace_128 : decode cX11_beginsPlace 128 = .ok (.if_icmp .ne 18, 3) := by decide +kernel
theorem eX11_beginsPlace_131 : decode cX11_beginsPlace 131 = .ok (.aload_n 0, 1) := by decide +kernel
theorem eX11_beginsPlace_132 : decode cX11_beginsPlace 132 = .ok (.getfield 290, 3) := by decide +kernel
theorem eX11_beginsPlace_135 : decode cX11_beginsPlace 135 = .ok (.ldc2_w 227, 3) := by decide +kernel
theorem eX11_beginsPlace_138 : decode cX11_beginsPlace 138 = .ok (.lcmp, 1) := by decide +kernel
theorem eX11_beginsPlace_139 : decode cX11_beginsPlace 139 = .ok (.ifCond .ne 7, 3) := by decide +kernel
theorem eX11_beginsPlace_142 : decode cX11_beginsPlace 142 = .ok (.iconst 1, 1) := by decide +kernel
theorem eX11_beginsPlace_143 : decode cX11_beginsPlace 143 = .ok (.goto 4, 3) := by decide +kernel
theorem eX11_beginsPlace_146 : decode cX11_beginsPlace 146 = .ok (.iconst 0, 1) := by decide +kernel
theorem eX11_beginsPlace_147 : decode cX11_beginsPlace 147 = .ok (.iastore, 1) := by decide +kernel
theorem eX11_beginsPlace_148 : decode cX11_beginsPlace 148 = .ok (.aload_n 0, 1) := by decide +kernel
theorem eX11_beginsPlace_149 : decode cX11_beginsPlace 149 = .ok (.getfield 70, 3) := by decide +kernel
theorem eX11_beginsPlace_152 : decode cX11_beginsPlace 152 = .ok (.iload_n 3, 1) := by decide +kernel
theorem eX11_beginsPlace_153 : decode cX11_beginsPlace 153 = .ok (.aload_n 0, 1) := by decide +kernel
theorem eX11_beginsPlace_154 : decode cX11_beginsPlace 154 = .ok (.getfield 290, 3) := by decide +kernel
theorem eX11_beginsPlace_157 : decode cX11_beginsPlace 157 = .ok (.lastore, 1) := by decide +kernel
theorem eX11_beginsPlace_158 : decode cX11_beginsPlace 158 = .ok (.aload_n 0, 1) := by decide +kernel
theorem eX11_beginsPlace_159 : decode cX11_beginsPlace 159 = .ok (.getfield 54, 3) := by decide +kernel
theorem eX11_beginsPlace_162 : decode cX11_beginsPlace 162 = .ok (.iload_n 3, 1) := by decide +kernel
theorem eX11_beginsPlace_163 : decode cX11_beginsPlace 163 = .ok (.iload_n 1, 1) := by decide +kernel
theorem eX11_beginsPlace_164 : decode cX11_beginsPlace 164 = .ok (.iconst 2, 1) := by decide +kernel
theorem eX11_beginsPlace_165 : decode cX11_beginsPlace 165 = .ok (.if_icmp .ne 10, 3) := by decide +kernel
theorem eX11_beginsPlace_168 : decode cX11_beginsPlace 168 = .ok (.aload_n 0, 1) := by decide +kernel
theorem eX11_beginsPlace_169 : decode cX11_beginsPlace 169 = .ok (.invokevirtual 356, 3) := by decide +kernel
theorem eX11_beginsPlace_172 : decode cX11_beginsPlace 172 = .ok (.goto 4, 3) := by decide +kernel
theorem eX11_beginsPlace_175 : decode cX11_beginsPlace 175 = .ok (.iconst (-1), 1) := by decide +kernel
theorem eX11_beginsPlace_176 : decode cX11_beginsPlace 176 = .ok (.iastore, 1) := by decide +kernel
theorem eX11_beginsPlace_177 : decode cX11_beginsPlace 177 = .ok (.iload_n 1, 1) := by decide +kernel
theorem eX11_beginsPlace_178 : decode cX11_beginsPlace 178 = .ok (.iconst 2, 1) := by decide +kernel
theorem eX11_beginsPlace_179 : decode cX11_beginsPlace 179 = .ok (.if_icmp .ne 21, 3) := by decide +kernel
theorem eX11_beginsPlace_182 : decode cX11_beginsPlace 182 = .ok (.aload_n 0, 1) := by decide +kernel
theorem eX11_beginsPlace_183 : decode cX11_beginsPlace 183 = .ok (.getfield 54, 3) := by decide +kernel
theorem eX11_beginsPlace_186 : decode cX11_beginsPlace 186 = .ok (.iload_n 3, 1) := by decide +kernel
theorem eX11_beginsPlace_187 : decode cX11_beginsPlace 187 = .ok (.iaload, 1) := by decide +kernel
theorem eX11_beginsPlace_188 : decode cX11_beginsPlace 188 = .ok (.ifCond .ge 12, 3) := by decide +kernel
theorem eX11_beginsPlace_191 : decode cX11_beginsPlace 191 = .ok (.aload_n 0, 1) := by decide +kernel
theorem eX11_beginsPlace_192 : decode cX11_beginsPlace 192 = .ok (.iconst 4, 1) := by decide +kernel
theorem eX11_beginsPlace_193 : decode cX11_beginsPlace 193 = .ok (.aload_n 0, 1) := by decide +kernel
theorem eX11_beginsPlace_194 : decode cX11_beginsPlace 194 = .ok (.getfield 276, 3) := by decide +kernel
theorem eX11_beginsPlace_197 : decode cX11_beginsPlace 197 = .ok (.invokevirtual 304, 3) := by decide +kernel
theorem eX11_beginsPlace_200 : decode cX11_beginsPlace 200 = .ok (.aload_n 0, 1) := by decide +kernel
theorem eX11_beginsPlace_201 : decode cX11_beginsPlace 201 = .ok (.invokevirtual 308, 3) := by decide +kernel
theorem eX11_beginsPlace_204 : decode cX11_beginsPlace 204 = .ok (.ifCond .ne 5, 3) := by decide +kernel
theorem eX11_beginsPlace_207 : decode cX11_beginsPlace 207 = .ok (.iconst 0, 1) := by decide +kernel
theorem eX11_beginsPlace_208 : decode cX11_beginsPlace 208 = .ok (.ireturn, 1) := by decide +kernel
theorem eX11_beginsPlace_209 : decode cX11_beginsPlace 209 = .ok (.aload_n 0, 1) := by decide +kernel
theorem eX11_beginsPlace_210 : decode cX11_beginsPlace 210 = .ok (.invokevirtual 312, 3) := by decide +kernel
theorem eX11_beginsPlace_213 : decode cX11_beginsPlace 213 = .ok (.iload_n 1, 1) := by decide +kernel
theorem eX11_beginsPlace_214 : decode cX11_beginsPlace 214 = .ok (.iconst 3, 1) := by decide +kernel
theorem eX11_beginsPlace_215 : decode cX11_beginsPlace 215 = .ok (.if_icmp .eq 8, 3) := by decide +kernel
theorem eX11_beginsPlace_218 : decode cX11_beginsPlace 218 = .ok (.iload_n 1, 1) := by decide +kernel
theorem eX11_beginsPlace_219 : decode cX11_beginsPlace 219 = .ok (.iconst 4, 1) := by decide +kernel
theorem eX11_beginsPlace_220 : decode cX11_beginsPlace 220 = .ok (.if_icmp .ne 8, 3) := by decide +kernel
theorem eX11_beginsPlace_223 : decode cX11_beginsPlace 223 = .ok (.aload_n 0, 1) := by decide +kernel
theorem eX11_beginsPlace_224 : decode cX11_beginsPlace 224 = .ok (.iload_n 3, 1) := by decide +kernel
theorem eX11_beginsPlace_225 : decode cX11_beginsPlace 225 = .ok (.invokevirtual 359, 3) := by decide +kernel
theorem eX11_beginsPlace_228 : decode cX11_beginsPlace 228 = .ok (.iload_n 1, 1) := by decide +kernel
theorem eX11_beginsPlace_229 : decode cX11_beginsPlace 229 = .ok (.bipush 16, 2) := by decide +kernel
theorem eX11_beginsPlace_231 : decode cX11_beginsPlace 231 = .ok (.if_icmp .ne 8, 3) := by decide +kernel
theorem eX11_beginsPlace_234 : decode cX11_beginsPlace 234 = .ok (.aload_n 0, 1) := by decide +kernel
theorem eX11_beginsPlace_235 : decode cX11_beginsPlace 235 = .ok (.iload_n 3, 1) := by decide +kernel
theorem eX11_beginsPlace_236 : decode cX11_beginsPlace 236 = .ok (.invokevirtual 362, 3) := by decide +kernel
theorem eX11_beginsPlace_239 : decode cX11_beginsPlace 239 = .ok (.aload_n 0, 1) := by decide +kernel
theorem eX11_beginsPlace_240 : decode cX11_beginsPlace 240 = .ok (.getfield 73, 3) := by decide +kernel
theorem eX11_beginsPlace_243 : decode cX11_beginsPlace 243 = .ok (.aload_n 0, 1) := by decide +kernel
theorem eX11_beginsPlace_244 : decode cX11_beginsPlace 244 = .ok (.getfield 343, 3) := by decide +kernel
theorem eX11_beginsPlace_247 : decode cX11_beginsPlace 247 = .ok (.iload_n 2, 1) := by decide +kernel
theorem eX11_beginsPlace_248 : decode cX11_beginsPlace 248 = .ok (.iastore, 1) := by decide +kernel
theorem eX11_beginsPlace_249 : decode cX11_beginsPlace 249 = .ok (.aload_n 0, 1) := by decide +kernel
theorem eX11_beginsPlace_250 : decode cX11_beginsPlace 250 = .ok (.getfield 76, 3) := by decide +kernel
theorem eX11_beginsPlace_253 : decode cX11_beginsPlace 253 = .ok (.aload_n 0, 1) := by decide +kernel
theorem eX11_beginsPlace_254 : decode cX11_beginsPlace 254 = .ok (.getfield 343, 3) := by decide +kernel
theorem eX11_beginsPlace_257 : decode cX11_beginsPlace 257 = .ok (.iconst 0, 1) := by decide +kernel
theorem eX11_beginsPlace_258 : decode cX11_beginsPlace 258 = .ok (.iastore, 1) := by decide +kernel
theorem eX11_beginsPlace_259 : decode cX11_beginsPlace 259 = .ok (.aload_n 0, 1) := by decide +kernel
theorem eX11_beginsPlace_260 : decode cX11_beginsPlace 260 = .ok (.dup, 1) := by decide +kernel
theorem eX11_beginsPlace_261 : decode cX11_beginsPlace 261 = .ok (.getfield 343, 3) := by decide +kernel
theorem eX11_beginsPlace_264 : decode cX11_beginsPlace 264 = .ok (.iconst 1, 1) := by decide +kernel
theorem eX11_beginsPlace_265 : decode cX11_beginsPlace 265 = .ok (.iadd, 1) := by decide +kernel
theorem eX11_beginsPlace_266 : decode cX11_beginsPlace 266 = .ok (.putfield 343, 3) := by decide +kernel
theorem eX11_beginsPlace_269 : decode cX11_beginsPlace 269 = .ok (.aload_n 0, 1) := by decide +kernel
theorem eX11_beginsPlace_270 : decode cX11_beginsPlace 270 = .ok (.invokevirtual 308, 3) := by decide +kernel
theorem eX11_beginsPlace_273 : decode cX11_beginsPlace 273 = .ok (.ifCond .eq 14, 3) := by decide +kernel
theorem eX11_beginsPlace_276 : decode cX11_beginsPlace 276 = .ok (.iload_n 1, 1) := by decide +kernel
theorem eX11_beginsPlace_277 : decode cX11_beginsPlace 277 = .ok (.invokestatic 365, 3) := by decide +kernel
theorem eX11_beginsPlace_280 : decode cX11_beginsPlace 280 = .ok (.ifCond .le 7, 3) := by decide +kernel
theorem eX11_beginsPlace_283 : decode cX11_beginsPlace 283 = .ok (.iconst 1, 1) := by decide +kernel
theorem eX11_beginsPlace_284 : decode cX11_beginsPlace 284 = .ok (.goto 4, 3) := by decide +kernel
theorem eX11_beginsPlace_287 : decode cX11_beginsPlace 287 = .ok (.iconst 0, 1) := by decide +kernel
theorem eX11_beginsPlace_288 : decode cX11_beginsPlace 288 = .ok (.ireturn, 1) := by decide +kernel
def C_X11_beginsPlace (s : ST) (Q : ST → Int → Prop) : Prop := bx <| RA s → q_met mX11_beginsPlace (qs layM s) [.ref 139] (PB layM Q)
theorem C_X11_beginsPlace.mono {s : ST} {Q Q' : ST → Int → Prop} (h : C_X11_beginsPlace s Q) (hq : ∀ s v, Q s v → Q' s v) : C_X11_beginsPlace s Q' := ⟨fun hA => q_met.mono (h.1 hA) (fun _ _ => PB.mono hq), trivial⟩
def K_X11_beginsPlace_239 (s : ST) (a1 : Int) (a2 : Int) (Q : ST → Int → Prop) : Prop := bx <| RA s → R32 a1 → R32 a2 → q_K mX11_beginsPlace (qs layM s) 0 0 239 [(0, .ref 139), (1, .int (Int32.ofInt a1)), (2, .int (Int32.ofInt a2))] [] (q_fin mX11_beginsPlace (PB layM Q))
def K_X11_beginsPlace_228 (s : ST) (a1 : Int) (a2 : Int) (a3 : Int) (Q : ST → Int → Prop) : Prop := bx <| RA s → R32 a1 → R32 a2 → R32 a3 → q_K mX11_beginsPlace (qs layM s) 0 0 228 [(0, .ref 139), (1, .int (Int32.ofInt a1)), (2, .int (Int32.ofInt a2)), (3, .int (Int32.ofInt a3))] [] (q_fin mX11_beginsPlace (PB layM Q))
def K_X11_beginsPlace_223 (s : ST) (a1 : Int) (a2 : Int) (a3 : Int) (Q : ST → Int → Prop) : Prop := bx <| RA s → R32 a1 → R32 a2 → R32 a3 → q_K mX11_beginsPlace (qs layM s) 0 0 223 [(0, .ref 139), (1, .int (Int32.ofInt a1)), (2, .int (Int32.ofInt a2)), (3, .int (Int32.ofInt a3))] [] (q_fin mX11_beginsPlace (PB layM Q))
def K_X11_beginsPlace_200 (s : ST) (a1 : Int) (a2 : Int) (a3 : Int) (Q : ST → Int → Prop) : Prop := bx <| RA s → R32 a1 → R32 a2 → R32 a3 → q_K mX11_beginsPlace (qs layM s) 0 0 200 [(0, .ref 139), (1, .int (Int32.ofInt a1)), (2, .int (Int32.ofInt a2)), (3, .int (Int32.ofInt a3))] [] (q_fin mX11_beginsPlace (PB layM Q))
def K_X11_beginsPlace_176 (s : ST) (a1 : Int) (a2 : Int) (a3 : Int) (t1 : Int) (t2 : Int) (Q : ST → Int → Prop) : Prop := bx <| RA s → R32 a1 → R32 a2 → R32 a3 → R32 t1 → R32 t2 → q_K mX11_beginsPlace (qs layM s) 0 0 176 [(0, .ref 139), (1, .int (Int32.ofInt a1)), (2, .int (Int32.ofInt a2)), (3, .int (Int32.ofInt a3))] [.int (Int32.ofInt t2), .int (Int32.ofInt t1), .ref 153] (q_fin mX11_beginsPlace (PB layM Q))
def K_X11_beginsPlace_147 (s : ST) (a1 : Int) (a2 : Int) (a3 : Int) (t1 : Int) (t2 : Int) (Q : ST → Int → Prop) : Prop := bx <| RA s → R32 a1 → R32 a2 → R32 a3 → R32 t1 → R32 t2 → q_K mX11_beginsPlace (qs layM s) 0 0 147 [(0, .ref 139), (1, .int (Int32.ofInt a1)), (2, .int (Int32.ofInt a2)), (3, .int (Int32.ofInt a3))] [.int (Int32.ofInt t2), .int (Int32.ofInt t1), .ref 147] (q_fin mX11_beginsPlace (PB layM Q))
def K_X11_beginsPlace_146 (s : ST) (a1 : Int) (a2 : Int) (a3 : Int) (t1 : Int) (Q : ST → Int → Prop) : Prop := bx <| RA s → R32 a1 → R32 a2 → R32 a3 → R32 t1 → q_K mX11_beginsPlace (qs layM s) 0 0 146 [(0, .ref 139), (1, .int (Int32.ofInt a1)), (2, .int (Int32.ofInt a2)), (3, .int (Int32.ofInt a3))] [.int (Int32.ofInt t1), .ref 147] (q_fin mX11_beginsPlace (PB layM Q))
def K_X11_beginsPlace_36 (s : ST) (a1 : Int) (Q : ST → Int → Prop) : Prop := bx <| RA s → R32 a1 → q_K mX11_beginsPlace (qs layM s) 0 0 36 [(0, .ref 139), (1, .int (Int32.ofInt a1))] [] (q_fin mX11_beginsPlace (PB layM Q))
def K_X11_beginsPlace_32 (s : ST) (a1 : Int) (Q : ST → Int → Prop) : Prop := bx <| RA s → R32 a1 → q_K mX11_beginsPlace (qs layM s) 0 0 32 [(0, .ref 139), (1, .int (Int32.ofInt a1))] [] (q_fin mX11_beginsPlace (PB layM Q))
set_option maxRecDepth 20000 in
theorem s_X11_beginsPlace_239 {s : ST} {a1 : Int} {a2 : Int} {Q : ST → Int → Prop} (h : RA s → R32 a1 → R32 a2 → (((0 : Int) ≤ s.1 139 32 ∧ s.1 139 32 < 22) ∧ (R32 (s.1 139 32 + 1) ∧ ((¬ ((ui (ui (ui s 159 (s.1 139 32) a2) 160 (s.1 139 32) 0) 139 32 (s.1 139 32 + 1)).1 139 4 = 0) → Q (ui (ui (ui s 159 (s.1 139 32) a2) 160 (s.1 139 32) 0) 139 32 (s.1 139 32 + 1)) 0) ∧ (((ui (ui (ui s 159 (s.1 139 32) a2) 160 (s.1 139 32) 0) 139 32 (s.1 139 32 + 1)).1 139 4 = 0) → (((F_X11_kidsOf (ui (ui (ui s 159 (s.1 139 32) a2) 160 (s.1 139 32) 0) 139 32 (s.1 139 32 + 1)) a1) ≤ 0 → Q (ui (ui (ui s 159 (s.1 139 32) a2) 160 (s.1 139 32) 0) 139 32 (s.1 139 32 + 1)) 0) ∧ (¬ (F_X11_kidsOf (ui (ui (ui s 159 (s.1 139 32) a2) 160 (s.1 139 32) 0) 139 32 (s.1 139 32 + 1)) a1) ≤ 0 → Q (ui (ui (ui s 159 (s.1 139 32) a2) 160 (s.1 139 32) 0) 139 32 (s.1 139 32 + 1)) 1))))))) : K_X11_beginsPlace_239 s a1 a2 Q := by
  refine ⟨?_, trivial⟩
  intro hA hra1 hra2
  have h := h hA hra1 hra2
  refine q_aload_n eX11_beginsPlace_239 rfl ?_
  refine q_getR (c := 11) (n := 0) (k := 30) (a := 159) eX11_beginsPlace_240 rfl (by decide) (by decide) fX11_73 rfl rfl ?_
  refine q_aload_n eX11_beginsPlace_243 rfl ?_
  refine q_getf (c := 11) (n := 0) (k := 32) (v := .int (Int32.ofInt (s.1 139 32))) eX11_beginsPlace_244 rfl (by decide) (by decide) fX11_343 rfl ?_
  refine q_iload_n eX11_beginsPlace_247 rfl ?_
  have f1 := h.1
  have h := h.2
  refine z_iast (n := 22) eX11_beginsPlace_248 rfl (ofz (hA _ _)) f1  ?_
  refine q_aload_n eX11_beginsPlace_249 rfl ?_
  refine q_getR (c := 11) (n := 0) (k := 31) (a := 160) eX11_beginsPlace_250 rfl (by decide) (by decide) fX11_76 rfl rfl ?_
  refine q_aload_n eX11_beginsPlace_253 rfl ?_
  refine q_getf (c := 11) (n := 0) (k := 32) (v := .int (Int32.ofInt (s.1 139 32))) eX11_beginsPlace_254 rfl (by decide) (by decide) fX11_343 rfl ?_
  refine q_ic (v := Int32.ofInt 0) eX11_beginsPlace_257 rfl ?_
  refine z_iast (n := 22) eX11_beginsPlace_258 rfl (ofz (hA _ _)) f1  ?_
  refine q_aload_n eX11_beginsPlace_259 rfl ?_
  refine q_dup eX11_beginsPlace_260 rfl ?_
  refine q_getf (c := 11) (n := 0) (k := 32) (v := .int (Int32.ofInt (s.1 139 32))) eX11_beginsPlace_261 rfl (by decide) (by decide) fX11_343 rfl ?_
  refine q_ic (v := Int32.ofInt 1) eX11_beginsPlace_264 rfl ?_
  refine z_iadd eX11_beginsPlace_265 ?_
  have r2 := h.1
  have h := h.2
  refine z_putI (c := 11) (n := 0) (k := 32) (kz := 32) eX11_beginsPlace_266 rfl (by decide) (by decide) fX11_343 rfl rfl rfl ?_
  refine q_aload_n eX11_beginsPlace_269 rfl ?_
  refine q_V0 (ci := 11) (n := 0) eX11_beginsPlace_270 DX11_isGood lX11_308 rfl (by decide) rfl rfl rfl rfl (p_X11_isGood (ra_ui (ra_ui (ra_ui hA hra2) (r32l rfl)) r2)) ?_
  rintro _ _ ⟨b3, rfl, rfl⟩
  refine q_iz_eq (tgt := 287) (a := (F_X11_isGood (ui (ui (ui s 159 (s.1 139 32) a2) 160 (s.1 139 32) 0) 139 32 (s.1 139 32 + 1)))) eX11_beginsPlace_273 (by decide) (ofz (r01 b3)) (fun c273 => ?_) (fun c273 => ?_)
  · have h := h.1 (fun q => n_X11_isGood.mpr q c273)
    refine q_ic (v := Int32.ofInt 0) eX11_beginsPlace_287 rfl ?_
    exact q_zret eX11_beginsPlace_288 rfl (z01 (Or.inl rfl)) ⟨_, _, rfl, (ra_ui (ra_ui (ra_ui hA hra2) (r32l rfl)) r2), (Or.inl rfl), rfl, h⟩
  · have h := h.2 (n_X11_isGood.mp c273)
    refine q_iload_n eX11_beginsPlace_276 rfl ?_
    refine q_S1 eX11_beginsPlace_277 DX11_kidsOf lX11_365 rfl rfl rfl (p_X11_kidsOf (ra_ui (ra_ui (ra_ui hA hra2) (r32l rfl)) r2) hra1) ?_
    rintro _ _ ⟨r4, rfl, rfl⟩
    refine q_iz_le (tgt := 287) (a := (F_X11_kidsOf (ui (ui (ui s 159 (s.1 139 32) a2) 160 (s.1 139 32) 0) 139 32 (s.1 139 32 + 1)) a1)) eX11_beginsPlace_280 (by decide) (ofz r4) (fun c280 => ?_) (fun c280 => ?_)
    · have h := h.1 c280
      refine q_ic (v := Int32.ofInt 0) eX11_beginsPlace_287 rfl ?_
      exact q_zret eX11_beginsPlace_288 rfl (z01 (Or.inl rfl)) ⟨_, _, rfl, (ra_ui (ra_ui (ra_ui hA hra2) (r32l rfl)) r2), (Or.inl rfl), rfl, h⟩
    · have h := h.2 c280
      refine q_ic (v := Int32.ofInt 1) eX11_beginsPlace_283 rfl ?_
      refine q_goto (tgt := 288) eX11_beginsPlace_284 (by decide) ?_
      exact q_zret eX11_beginsPlace_288 rfl (z01 (Or.inr rfl)) ⟨_, _, rfl, (ra_ui (ra_ui (ra_ui hA hra2) (r32l rfl)) r2), (Or.inr rfl), rfl, h⟩
set_option maxRecDepth 20000 in
theorem s_X11_beginsPlace_228 {s : ST} {a1 : Int} {a2 : Int} {a3 : Int} {Q : ST → Int → Prop} (h : RA s → R32 a1 → R32 a2 → R32 a3 → ((¬ a1 = 16 → K_X11_beginsPlace_239 s a1 a2 Q) ∧ (a1 = 16 → (C_X11_readKind s a3 (fun s1 => K_X11_beginsPlace_239 s1 a1 a2 Q))))) : K_X11_beginsPlace_228 s a1 a2 a3 Q := by
  refine ⟨?_, trivial⟩
  intro hA hra1 hra2 hra3
  have h := h hA hra1 hra2 hra3
  refine q_iload_n eX11_beginsPlace_228 rfl ?_
  refine q_bi (v := Int32.ofInt 16) eX11_beginsPlace_229 rfl ?_
  refine q_cz_ne (tgt := 239) (a := a1) (b := 16) eX11_beginsPlace_231 (by decide) (ofz hra1) (ofz (r32l rfl)) (fun c231 => ?_) (fun c231 => ?_)
  · have h := h.1 c231
    exact q_subL rfl (h.1 hA hra1 hra2)
  · have h := h.2 c231
    refine q_aload_n eX11_beginsPlace_234 rfl ?_
    refine q_iload_n eX11_beginsPlace_235 rfl ?_
    refine q_V1 (ci := 11) (n := 0) eX11_beginsPlace_236 DX11_readKind lX11_362 rfl (by decide) rfl rfl rfl rfl (h.1 hA hra3) ?_
    rintro _ _ ⟨s1, rfl, hA1, rfl, h⟩
    exact q_subL rfl (h.1 hA1 hra1 hra2)
set_option maxRecDepth 20000 in
theorem s_X11_beginsPlace_223 {s : ST} {a1 : Int} {a2 : Int} {a3 : Int} {Q : ST → Int → Prop} (h : RA s → R32 a1 → R32 a2 → R32 a3 → (C_X11_readWord s a3 (fun s1 => K_X11_beginsPlace_228 s1 a1 a2 a3 Q))) : K_X11_beginsPlace_223 s a1 a2 a3 Q := by
  refine ⟨?_, trivial⟩
  intro hA hra1 hra2 hra3
  have h := h hA hra1 hra2 hra3
  refine q_aload_n eX11_beginsPlace_223 rfl ?_
  refine q_iload_n eX11_beginsPlace_224 rfl ?_
  refine q_V1 (ci := 11) (n := 0) eX11_beginsPlace_225 DX11_readWord lX11_359 rfl (by decide) rfl rfl rfl rfl (h.1 hA hra3) ?_
  rintro _ _ ⟨s1, rfl, hA1, rfl, h⟩
  exact q_subL rfl (h.1 hA1 hra1 hra2 hra3)
set_option maxRecDepth 20000 in
theorem s_X11_beginsPlace_200 {s : ST} {a1 : Int} {a2 : Int} {a3 : Int} {Q : ST → Int → Prop} (h : RA s → R32 a1 → R32 a2 → R32 a3 → (((s.1 139 4 = 0) → (C_X11_goOn s (fun s2 => ((a1 = 3 → K_X11_beginsPlace_223 s2 a1 a2 a3 Q) ∧ (¬ a1 = 3 → ((¬ a1 = 4 → K_X11_beginsPlace_228 s2 a1 a2 a3 Q) ∧ (a1 = 4 → K_X11_beginsPlace_223 s2 a1 a2 a3 Q))))))) ∧ (¬ (s.1 139 4 = 0) → Q s 0))) : K_X11_beginsPlace_200 s a1 a2 a3 Q := by
  refine ⟨?_, trivial⟩
  intro hA hra1 hra2 hra3
  have h := h hA hra1 hra2 hra3
  refine q_aload_n eX11_beginsPlace_200 rfl ?_
  refine q_V0 (ci := 11) (n := 0) eX11_beginsPlace_201 DX11_isGood lX11_308 rfl (by decide) rfl rfl rfl rfl (p_X11_isGood hA) ?_
  rintro _ _ ⟨b1, rfl, rfl⟩
  refine q_iz_ne (tgt := 209) (a := (F_X11_isGood s)) eX11_beginsPlace_204 (by decide) (ofz (r01 b1)) (fun c204 => ?_) (fun c204 => ?_)
  · have h := h.1 (n_X11_isGood.mp c204)
    refine q_aload_n eX11_beginsPlace_209 rfl ?_
    refine q_V0 (ci := 11) (n := 0) eX11_beginsPlace_210 DX11_goOn lX11_312 rfl (by decide) rfl rfl rfl rfl (h.1 hA) ?_
    rintro _ _ ⟨s2, rfl, hA2, rfl, h⟩
    refine q_iload_n eX11_beginsPlace_213 rfl ?_
    refine q_ic (v := Int32.ofInt 3) eX11_beginsPlace_214 rfl ?_
    refine q_cz_eq (tgt := 223) (a := a1) (b := 3) eX11_beginsPlace_215 (by decide) (ofz hra1) (ofz (r32l rfl)) (fun c215 => ?_) (fun c215 => ?_)
    · have h := h.1 c215
      exact q_subL rfl (h.1 hA2 hra1 hra2 hra3)
    · have h := h.2 c215
      refine q_iload_n eX11_beginsPlace_218 rfl ?_
      refine q_ic (v := Int32.ofInt 4) eX11_beginsPlace_219 rfl ?_
      refine q_cz_ne (tgt := 228) (a := a1) (b := 4) eX11_beginsPlace_220 (by decide) (ofz hra1) (ofz (r32l rfl)) (fun c220 => ?_) (fun c220 => ?_)
      · have h := h.1 c220
        exact q_subL rfl (h.1 hA2 hra1 hra2 hra3)
      · have h := h.2 c220
        exact q_subL rfl (h.1 hA2 hra1 hra2 hra3)
  · have h := h.2 (fun q => n_X11_isGood.mpr q c204)
    refine q_ic (v := Int32.ofInt 0) eX11_beginsPlace_207 rfl ?_
    exact q_zret eX11_beginsPlace_208 rfl (z01 (Or.inl rfl)) ⟨_, _, rfl, hA, (Or.inl rfl), rfl, h⟩
set_option maxRecDepth 20000 in
theorem s_X11_beginsPlace_176 {s : ST} {a1 : Int} {a2 : Int} {a3 : Int} {t1 : Int} {t2 : Int} {Q : ST → Int → Prop} (h : RA s → R32 a1 → R32 a2 → R32 a3 → R32 t1 → R32 t2 → (((0 : Int) ≤ t1 ∧ t1 < 240) ∧ ((¬ a1 = 2 → K_X11_beginsPlace_200 (ui s 153 t1 t2) a1 a2 a3 Q) ∧ (a1 = 2 → (((0 : Int) ≤ a3 ∧ a3 < 240) ∧ ((0 ≤ (ui s 153 t1 t2).1 153 a3 → K_X11_beginsPlace_200 (ui s 153 t1 t2) a1 a2 a3 Q) ∧ (¬ 0 ≤ (ui s 153 t1 t2).1 153 a3 → (C_X11_fails (ui s 153 t1 t2) 4 (s.1 139 6) (fun s3 => K_X11_beginsPlace_200 s3 a1 a2 a3 Q))))))))) : K_X11_beginsPlace_176 s a1 a2 a3 t1 t2 Q := by
  refine ⟨?_, trivial⟩
  intro hA hra1 hra2 hra3 hrt1 hrt2
  have h := h hA hra1 hra2 hra3 hrt1 hrt2
  have f1 := h.1
  have h := h.2
  refine z_iast (n := 240) eX11_beginsPlace_176 rfl (ofz hrt1) f1  ?_
  refine q_iload_n eX11_beginsPlace_177 rfl ?_
  refine q_ic (v := Int32.ofInt 2) eX11_beginsPlace_178 rfl ?_
  refine q_cz_ne (tgt := 200) (a := a1) (b := 2) eX11_beginsPlace_179 (by decide) (ofz hra1) (ofz (r32l rfl)) (fun c179 => ?_) (fun c179 => ?_)
  · have h := h.1 c179
    exact q_subL rfl (h.1 (ra_ui hA hrt2) hra1 hra2 hra3)
  · have h := h.2 c179
    refine q_aload_n eX11_beginsPlace_182 rfl ?_
    refine q_getR (c := 11) (n := 0) (k := 22) (a := 153) eX11_beginsPlace_183 rfl (by decide) (by decide) fX11_54 rfl rfl ?_
    refine q_iload_n eX11_beginsPlace_186 rfl ?_
    have f2 := h.1
    have h := h.2
    refine z_iald (n := 240) eX11_beginsPlace_187 rfl (ofz hra3) f2 ?_
    refine q_topI (v := Int32.ofInt ((ui s 153 t1 t2).1 153 a3)) rfl ?_
    refine q_iz_ge (tgt := 200) (a := (ui s 153 t1 t2).1 153 a3) eX11_beginsPlace_188 (by decide) (ofz ((ra_ui hA hrt2) _ _)) (fun c188 => ?_) (fun c188 => ?_)
    · have h := h.1 c188
      exact q_subL rfl (h.1 (ra_ui hA hrt2) hra1 hra2 hra3)
    · have h := h.2 c188
      refine q_aload_n eX11_beginsPlace_191 rfl ?_
      refine q_ic (v := Int32.ofInt 4) eX11_beginsPlace_192 rfl ?_
      refine q_aload_n eX11_beginsPlace_193 rfl ?_
      refine q_getf (c := 11) (n := 0) (k := 6) (v := .int (Int32.ofInt (s.1 139 6))) eX11_beginsPlace_194 rfl (by decide) (by decide) fX11_276 rfl ?_
      refine q_V2 (ci := 11) (n := 0) eX11_beginsPlace_197 DX11_fails lX11_304 rfl (by decide) rfl rfl rfl rfl (h.1 (ra_ui hA hrt2) (r32l rfl) (hA _ _)) ?_
      rintro _ _ ⟨s3, rfl, hA3, rfl, h⟩
      exact q_subL rfl (h.1 hA3 hra1 hra2 hra3)
set_option maxRecDepth 20000 in
theorem s_X11_beginsPlace_147 {s : ST} {a1 : Int} {a2 : Int} {a3 : Int} {t1 : Int} {t2 : Int} {Q : ST → Int → Prop} (h : RA s → R32 a1 → R32 a2 → R32 a3 → R32 t1 → R32 t2 → (((0 : Int) ≤ t1 ∧ t1 < 240) ∧ (((0 : Int) ≤ a3 ∧ a3 < 240) ∧ ((¬ a1 = 2 → K_X11_beginsPlace_176 (uj (ui s 147 t1 t2) 158 a3 (s.2 139 10)) a1 a2 a3 a3 (-1) Q) ∧ (a1 = 2 → (C_X11_meant (uj (ui s 147 t1 t2) 158 a3 (s.2 139 10)) (fun s3 v3 => K_X11_beginsPlace_176 s3 a1 a2 a3 a3 v3 Q))))))) : K_X11_beginsPlace_147 s a1 a2 a3 t1 t2 Q := by
  refine ⟨?_, trivial⟩
  intro hA hra1 hra2 hra3 hrt1 hrt2
  have h := h hA hra1 hra2 hra3 hrt1 hrt2
  have f1 := h.1
  have h := h.2
  refine z_iast (n := 240) eX11_beginsPlace_147 rfl (ofz hrt1) f1  ?_
  refine q_aload_n eX11_beginsPlace_148 rfl ?_
  refine q_getR (c := 11) (n := 0) (k := 27) (a := 158) eX11_beginsPlace_149 rfl (by decide) (by decide) fX11_70 rfl rfl ?_
  refine q_iload_n eX11_beginsPlace_152 rfl ?_
  refine q_aload_n eX11_beginsPlace_153 rfl ?_
  refine q_getf (c := 11) (n := 0) (k := 10) (v := .long (s.2 139 10)) eX11_beginsPlace_154 rfl (by decide) (by decide) fX11_290 rfl ?_
  have f2 := h.1
  have h := h.2
  refine z_last (n := 240) eX11_beginsPlace_157 rfl (ofz hra3) f2  ?_
  refine q_aload_n eX11_beginsPlace_158 rfl ?_
  refine q_getR (c := 11) (n := 0) (k := 22) (a := 153) eX11_beginsPlace_159 rfl (by decide) (by decide) fX11_54 rfl rfl ?_
  refine q_iload_n eX11_beginsPlace_162 rfl ?_
  refine q_iload_n eX11_beginsPlace_163 rfl ?_
  refine q_ic (v := Int32.ofInt 2) eX11_beginsPlace_164 rfl ?_
  refine q_cz_ne (tgt := 175) (a := a1) (b := 2) eX11_beginsPlace_165 (by decide) (ofz hra1) (ofz (r32l rfl)) (fun c165 => ?_) (fun c165 => ?_)
  · have h := h.1 c165
    refine q_ic (v := Int32.ofInt (-1)) eX11_beginsPlace_175 rfl ?_
    exact q_subL rfl (h.1 (ra_uj (ra_ui hA hrt2)) hra1 hra2 hra3 hra3 (r32l rfl))
  · have h := h.2 c165
    refine q_aload_n eX11_beginsPlace_168 rfl ?_
    refine q_V0 (ci := 11) (n := 0) eX11_beginsPlace_169 DX11_meant lX11_356 rfl (by decide) rfl rfl rfl rfl (h.1 (ra_uj (ra_ui hA hrt2))) ?_
    rintro _ _ ⟨s3, v3, rfl, hA3, r3, rfl, h⟩
    refine q_goto (tgt := 176) eX11_beginsPlace_172 (by decide) ?_
    exact q_subL rfl (h.1 hA3 hra1 hra2 hra3 hra3 r3)
set_option maxRecDepth 20000 in
theorem s_X11_beginsPlace_146 {s : ST} {a1 : Int} {a2 : Int} {a3 : Int} {t1 : Int} {Q : ST → Int → Prop} (h : RA s → R32 a1 → R32 a2 → R32 a3 → R32 t1 → K_X11_beginsPlace_147 s a1 a2 a3 t1 0 Q) : K_X11_beginsPlace_146 s a1 a2 a3 t1 Q := by
  refine ⟨?_, trivial⟩
  intro hA hra1 hra2 hra3 hrt1
  have h := h hA hra1 hra2 hra3 hrt1
  refine q_ic (v := Int32.ofInt 0) eX11_beginsPlace_146 rfl ?_
  exact q_subL rfl (h.1 hA hra1 hra2 hra3 hrt1 (r32l rfl))
set_option maxRecDepth 20000 in
theorem s_X11_beginsPlace_36 {s : ST} {a1 : Int} {Q : ST → Int → Prop} (h : RA s → R32 a1 → (((s.1 139 4 = 0) → (((0 : Int) ≤ s.1 139 29 ∧ s.1 139 29 < 6) ∧ (R32 (40 * s.1 139 29) ∧ (R32 ((40 * s.1 139 29) + s.1 142 (s.1 139 29)) ∧ (R32 (s.1 142 (s.1 139 29) + 1) ∧ (((0 : Int) ≤ ((40 * s.1 139 29) + s.1 142 (s.1 139 29)) ∧ ((40 * s.1 139 29) + s.1 142 (s.1 139 29)) < 240) ∧ ((¬ a1 = 0 → ((¬ a1 = 1 → K_X11_beginsPlace_146 (ui (ui (ui (ui s 142 (s.1 139 29) (s.1 142 (s.1 139 29) + 1)) 146 ((40 * s.1 139 29) + s.1 142 (s.1 139 29)) a1) 148 ((40 * s.1 139 29) + s.1 142 (s.1 139 29)) (s.1 139 6)) 149 ((40 * s.1 139 29) + s.1 142 (s.1 139 29)) (s.1 143 (s.1 139 29))) a1 (s.1 142 (s.1 139 29)) ((40 * s.1 139 29) + s.1 142 (s.1 139 29)) ((40 * s.1 139 29) + s.1 142 (s.1 139 29)) Q) ∧ (a1 = 1 → ((¬ (s.2 139 10) = 7955827 → K_X11_beginsPlace_146 (ui (ui (ui (ui s 142 (s.1 139 29) (s.1 142 (s.1 139 29) + 1)) 146 ((40 * s.1 139 29) + s.1 142 (s.1 139 29)) a1) 148 ((40 * s.1 139 29) + s.1 142 (s.1 139 29)) (s.1 139 6)) 149 ((40 * s.1 139 29) + s.1 142 (s.1 139 29)) (s.1 143 (s.1 139 29))) a1 (s.1 142 (s.1 139 29)) ((40 * s.1 139 29) + s.1 142 (s.1 139 29)) ((40 * s.1 139 29) + s.1 142 (s.1 139 29)) Q) ∧ ((s.2 139 10) = 7955827 → K_X11_beginsPlace_147 (ui (ui (ui (ui s 142 (s.1 139 29) (s.1 142 (s.1 139 29) + 1)) 146 ((40 * s.1 139 29) + s.1 142 (s.1 139 29)) a1) 148 ((40 * s.1 139 29) + s.1 142 (s.1 139 29)) (s.1 139 6)) 149 ((40 * s.1 139 29) + s.1 142 (s.1 139 29)) (s.1 143 (s.1 139 29))) a1 (s.1 142 (s.1 139 29)) ((40 * s.1 139 29) + s.1 142 (s.1 139 29)) ((40 * s.1 139 29) + s.1 142 (s.1 139 29)) 1 Q))))) ∧ (a1 = 0 → K_X11_beginsPlace_147 (ui (ui (ui (ui s 142 (s.1 139 29) (s.1 142 (s.1 139 29) + 1)) 146 ((40 * s.1 139 29) + s.1 142 (s.1 139 29)) a1) 148 ((40 * s.1 139 29) + s.1 142 (s.1 139 29)) (s.1 139 6)) 149 ((40 * s.1 139 29) + s.1 142 (s.1 139 29)) (s.1 143 (s.1 139 29))) a1 (s.1 142 (s.1 139 29)) ((40 * s.1 139 29) + s.1 142 (s.1 139 29)) ((40 * s.1 139 29) + s.1 142 (s.1 139 29)) (s.1 139 9) Q)))))))) ∧ (¬ (s.1 139 4 = 0) → Q s 0))) : K_X11_beginsPlace_36 s a1 Q := by
  refine ⟨?_, trivial⟩
  intro hA hra1
  have h := h hA hra1
  refine q_aload_n eX11_beginsPlace_36 rfl ?_
  refine q_V0 (ci := 11) (n := 0) eX11_beginsPlace_37 DX11_isGood lX11_308 rfl (by decide) rfl rfl rfl rfl (p_X11_isGood hA) ?_
  rintro _ _ ⟨b1, rfl, rfl⟩
  refine q_iz_ne (tgt := 45) (a := (F_X11_isGood s)) eX11_beginsPlace_40 (by decide) (ofz (r01 b1)) (fun c40 => ?_) (fun c40 => ?_)
  · have h := h.1 (n_X11_isGood.mp c40)
    refine q_aload_n eX11_beginsPlace_45 rfl ?_
    refine q_getR (c := 11) (n := 0) (k := 11) (a := 142) eX11_beginsPlace_46 rfl (by decide) (by decide) fX11_20 rfl rfl ?_
    refine q_aload_n eX11_beginsPlace_49 rfl ?_
    refine q_getf (c := 11) (n := 0) (k := 29) (v := .int (Int32.ofInt (s.1 139 29))) eX11_beginsPlace_50 rfl (by decide) (by decide) fX11_324 rfl ?_
    have f2 := h.1
    have h := h.2
    refine z_iald (n := 6) eX11_beginsPlace_53 rfl (ofz (hA _ _)) f2 ?_
    refine q_topI (v := Int32.ofInt (s.1 142 (s.1 139 29))) rfl ?_
    refine q_istore_n eX11_beginsPlace_54 (Nat.le_of_ble_eq_true rfl) ?_
    refine q_bi (v := Int32.ofInt 40) eX11_beginsPlace_55 rfl ?_
    refine q_aload_n eX11_beginsPlace_57 rfl ?_
    refine q_getf (c := 11) (n := 0) (k := 29) (v := .int (Int32.ofInt (s.1 139 29))) eX11_beginsPlace_58 rfl (by decide) (by decide) fX11_324 rfl ?_
    refine z_imul eX11_beginsPlace_61 ?_
    have r3 := h.1
    have h := h.2
    refine q_iload_n eX11_beginsPlace_62 rfl ?_
    refine z_iadd eX11_beginsPlace_63 ?_
    have r4 := h.1
    have h := h.2
    refine q_istore_n eX11_beginsPlace_64 (Nat.le_of_ble_eq_true rfl) ?_
    refine q_aload_n eX11_beginsPlace_65 rfl ?_
    refine q_getR (c := 11) (n := 0) (k := 11) (a := 142) eX11_beginsPlace_66 rfl (by decide) (by decide) fX11_20 rfl rfl ?_
    refine q_aload_n eX11_beginsPlace_69 rfl ?_
    refine q_getf (c := 11) (n := 0) (k := 29) (v := .int (Int32.ofInt (s.1 139 29))) eX11_beginsPlace_70 rfl (by decide) (by decide) fX11_324 rfl ?_
    refine q_dup2 eX11_beginsPlace_73 rfl rfl ?_
    refine z_iald (n := 6) eX11_beginsPlace_74 rfl (ofz (hA _ _)) f2 ?_
    refine q_topI (v := Int32.ofInt (s.1 142 (s.1 139 29))) rfl ?_
    refine q_ic (v := Int32.ofInt 1) eX11_beginsPlace_75 rfl ?_
    refine z_iadd eX11_beginsPlace_76 ?_
    have r5 := h.1
    have h := h.2
    refine z_iast (n := 6) eX11_beginsPlace_77 rfl (ofz (hA _ _)) f2  ?_
    refine q_aload_n eX11_beginsPlace_78 rfl ?_
    refine q_getR (c := 11) (n := 0) (k := 15) (a := 146) eX11_beginsPlace_79 rfl (by decide) (by decide) fX11_33 rfl rfl ?_
    refine q_iload_n eX11_beginsPlace_82 rfl ?_
    refine q_iload_n eX11_beginsPlace_83 rfl ?_
    have f6 := h.1
    have h := h.2
    refine z_iast (n := 240) eX11_beginsPlace_84 rfl (ofz r4) f6  ?_
    refine q_aload_n eX11_beginsPlace_85 rfl ?_
    refine q_getR (c := 11) (n := 0) (k := 17) (a := 148) eX11_beginsPlace_86 rfl (by decide) (by decide) fX11_39 rfl rfl ?_
    refine q_iload_n eX11_beginsPlace_89 rfl ?_
    refine q_aload_n eX11_beginsPlace_90 rfl ?_
    refine q_getf (c := 11) (n := 0) (k := 6) (v := .int (Int32.ofInt (s.1 139 6))) eX11_beginsPlace_91 rfl (by decide) (by decide) fX11_276 rfl ?_
    refine z_iast (n := 240) eX11_beginsPlace_94 rfl (ofz r4) f6  ?_
    refine q_aload_n eX11_beginsPlace_95 rfl ?_
    refine q_getR (c := 11) (n := 0) (k := 18) (a := 149) eX11_beginsPlace_96 rfl (by decide) (by decide) fX11_42 rfl rfl ?_
    refine q_iload_n eX11_beginsPlace_99 rfl ?_
    refine q_aload_n eX11_beginsPlace_100 rfl ?_
    refine q_getR (c := 11) (n := 0) (k := 12) (a := 143) eX11_beginsPlace_101 rfl (by decide) (by decide) fX11_24 rfl rfl ?_
    refine q_aload_n eX11_beginsPlace_104 rfl ?_
    refine q_getf (c := 11) (n := 0) (k := 29) (v := .int (Int32.ofInt (s.1 139 29))) eX11_beginsPlace_105 rfl (by decide) (by decide) fX11_324 rfl ?_
    refine z_iald (n := 6) eX11_beginsPlace_108 rfl (ofz (hA _ _)) f2 ?_
    refine q_topI (v := Int32.ofInt (s.1 143 (s.1 139 29))) rfl ?_
    refine z_iast (n := 240) eX11_beginsPlace_109 rfl (ofz r4) f6  ?_
    refine q_aload_n eX11_beginsPlace_110 rfl ?_
    refine q_getR (c := 11) (n := 0) (k := 16) (a := 147) eX11_beginsPlace_111 rfl (by decide) (by decide) fX11_36 rfl rfl ?_
    refine q_iload_n eX11_beginsPlace_114 rfl ?_
    refine q_iload_n eX11_beginsPlace_115 rfl ?_
    refine q_iz_ne (tgt := 126) (a := a1) eX11_beginsPlace_116 (by decide) (ofz hra1) (fun c116 => ?_) (fun c116 => ?_)
    · have h := h.1 c116
      refine q_iload_n eX11_beginsPlace_126 rfl ?_
      refine q_ic (v := Int32.ofInt 1) eX11_beginsPlace_127 rfl ?_
      refine q_cz_ne (tgt := 146) (a := a1) (b := 1) eX11_beginsPlace_128 (by decide) (ofz hra1) (ofz (r32l rfl)) (fun c128 => ?_) (fun c128 => ?_)
      · have h := h.1 c128
        exact q_subL rfl (h.1 (ra_ui (ra_ui (ra_ui (ra_ui hA r5) hra1) (hA _ _)) (hA _ _)) hra1 (hA _ _) r4 r4)
      · have h := h.2 c128
        refine q_aload_n eX11_beginsPlace_131 rfl ?_
        refine q_getf (c := 11) (n := 0) (k := 10) (v := .long (s.2 139 10)) eX11_beginsPlace_132 rfl (by decide) (by decide) fX11_290 rfl ?_
        refine q_ldc2 (v := 7955827) eX11_beginsPlace_135 nX11_227 ?_
        refine q_lcmp eX11_beginsPlace_138 ?_
        refine z_lc_ne (tgt := 146) eX11_beginsPlace_139 (by decide) (fun c139 => ?_) (fun c139 => ?_)
        · have h := h.1 c139
          exact q_subL rfl (h.1 (ra_ui (ra_ui (ra_ui (ra_ui hA r5) hra1) (hA _ _)) (hA _ _)) hra1 (hA _ _) r4 r4)
        · have h := h.2 c139
          refine q_ic (v := Int32.ofInt 1) eX11_beginsPlace_142 rfl ?_
          refine q_goto (tgt := 147) eX11_beginsPlace_143 (by decide) ?_
          exact q_subL rfl (h.1 (ra_ui (ra_ui (ra_ui (ra_ui hA r5) hra1) (hA _ _)) (hA _ _)) hra1 (hA _ _) r4 r4 (r32l rfl))
    · have h := h.2 c116
      refine q_aload_n eX11_beginsPlace_119 rfl ?_
      refine q_getf (c := 11) (n := 0) (k := 9) (v := .int (Int32.ofInt (s.1 139 9))) eX11_beginsPlace_120 rfl (by decide) (by decide) fX11_301 rfl ?_
      refine q_goto (tgt := 147) eX11_beginsPlace_123 (by decide) ?_
      exact q_subL rfl (h.1 (ra_ui (ra_ui (ra_ui (ra_ui hA r5) hra1) (hA _ _)) (hA _ _)) hra1 (hA _ _) r4 r4 (hA _ _))
  · have h := h.2 (fun q => n_X11_isGood.mpr q c40)
    refine q_ic (v := Int32.ofInt 0) eX11_beginsPlace_43 rfl ?_
    exact q_zret eX11_beginsPlace_44 rfl (z01 (Or.inl rfl)) ⟨_, _, rfl, hA, (Or.inl rfl), rfl, h⟩
set_option maxRecDepth 20000 in
theorem s_X11_beginsPlace_32 {s : ST} {a1 : Int} {Q : ST → Int → Prop} (h : RA s → R32 a1 → (C_X11_misplaced s (fun s1 => K_X11_beginsPlace_36 s1 a1 Q))) : K_X11_beginsPlace_32 s a1 Q := by
  refine ⟨?_, trivial⟩
  intro hA hra1
  have h := h hA hra1
  refine q_aload_n eX11_beginsPlace_32 rfl ?_
  refine q_V0 (ci := 11) (n := 0) eX11_beginsPlace_33 DX11_misplaced lX11_315 rfl (by decide) rfl rfl rfl rfl (h.1 hA) ?_
  rintro _ _ ⟨s1, rfl, hA1, rfl, h⟩
  exact q_subL rfl (h.1 hA1 hra1)
set_option maxRecDepth 20000 in
theorem s_X11_beginsPlace {s : ST} {Q : ST → Int → Prop} (h : RA s → (((F_X11_sortHere s) < 0 → K_X11_beginsPlace_32 s (F_X11_sortHere s) Q) ∧ (¬ (F_X11_sortHere s) < 0 → (((0 : Int) ≤ s.1 139 29 ∧ s.1 139 29 < 6) ∧ ((s.1 142 (s.1 139 29) = 40 → K_X11_beginsPlace_32 s (F_X11_sortHere s) Q) ∧ (¬ s.1 142 (s.1 139 29) = 40 → ((s.1 139 32 ≤ 20 → K_X11_beginsPlace_36 s (F_X11_sortHere s) Q) ∧ (¬ s.1 139 32 ≤ 20 → K_X11_beginsPlace_32 s (F_X11_sortHere s) Q)))))))) : C_X11_beginsPlace s Q := by
  refine ⟨?_, trivial⟩
  intro hA
  have h := h hA
  refine q_enter (by decide) (Nat.le_of_ble_eq_true rfl) ?_
  refine q_aload_n eX11_beginsPlace_0 rfl ?_
  refine q_V0 (ci := 11) (n := 0) eX11_beginsPlace_1 DX11_sortHere lX11_352 rfl (by decide) rfl rfl rfl rfl (p_X11_sortHere hA) ?_
  rintro _ _ ⟨r1, rfl, rfl⟩
  refine q_istore_n eX11_beginsPlace_4 (Nat.le_of_ble_eq_true rfl) ?_
  refine q_iload_n eX11_beginsPlace_5 rfl ?_
  refine q_iz_lt (tgt := 32) (a := (F_X11_sortHere s)) eX11_beginsPlace_6 (by decide) (ofz r1) (fun c6 => ?_) (fun c6 => ?_)
  · have h := h.1 c6
    exact q_subL rfl (h.1 hA r1)
  · have h := h.2 c6
    refine q_aload_n eX11_beginsPlace_9 rfl ?_
    refine q_getR (c := 11) (n := 0) (k := 11) (a := 142) eX11_beginsPlace_10 rfl (by decide) (by decide) fX11_20 rfl rfl ?_
    refine q_aload_n eX11_beginsPlace_13 rfl ?_
    refine q_getf (c := 11) (n := 0) (k := 29) (v := .int (Int32.ofInt (s.1 139 29))) eX11_beginsPlace_14 rfl (by decide) (by decide) fX11_324 rfl ?_
    have f2 := h.1
    have h := h.2
    refine z_iald (n := 6) eX11_beginsPlace_17 rfl (ofz (hA _ _)) f2 ?_
    refine q_topI (v := Int32.ofInt (s.1 142 (s.1 139 29))) rfl ?_
    refine q_bi (v := Int32.ofInt 40) eX11_beginsPlace_18 rfl ?_
    refine q_cz_eq (tgt := 32) (a := s.1 142 (s.1 139 29)) (b := 40) eX11_beginsPlace_20 (by decide) (ofz (hA _ _)) (ofz (r32l rfl)) (fun c20 => ?_) (fun c20 => ?_)
    · have h := h.1 c20
      exact q_subL rfl (h.1 hA r1)
    · have h := h.2 c20
      refine q_aload_n eX11_beginsPlace_23 rfl ?_
      refine q_getf (c := 11) (n := 0) (k := 32) (v := .int (Int32.ofInt (s.1 139 32))) eX11_beginsPlace_24 rfl (by decide) (by decide) fX11_343 rfl ?_
      refine q_bi (v := Int32.ofInt 20) eX11_beginsPlace_27 rfl ?_
      refine q_cz_le (tgt := 36) (a := s.1 139 32) (b := 20) eX11_beginsPlace_29 (by decide) (ofz (hA _ _)) (ofz (r32l rfl)) (fun c29 => ?_) (fun c29 => ?_)
      · have h := h.1 c29
        exact q_subL rfl (h.1 hA r1)
      · have h := h.2 c29
        exact q_subL rfl (h.1 hA r1)
theorem eX11_rootOf_0 : decode cX11_rootOf 0 = .ok (.aload_n 0, 1) := by decide +kernel
theorem eX11_rootOf_1 : decode cX11_rootOf 1 = .ok (.getfield 54, 3) := by decide +kernel
theorem eX11_rootOf_4 : decode cX11_rootOf 4 = .ok (.bipush 40, 2) := by decide +kernel
theorem eX11_rootOf_6 : decode cX11_rootOf 6 = .ok (.iload_n 1, 1) := by decide +kernel
theorem eX11_rootOf_7 : decode cX11_rootOf 7 = .ok (.imul, 1) := by decide +kernel
theorem eX11_rootOf_8 : decode cX11_rootOf 8 = .ok (.iload_n 2, 1) := by decide +kernel
theorem eX11_rootOf_9 : decode cX11_rootOf 9 = .ok (.iadd, 1) := by decide +kernel
theorem eX11_rootOf_10 : decode cX11_rootOf 10 = .ok (.iaload, 1) := by decide +kernel
theorem eX11_rootOf_11 : decode cX11_rootOf 11 = .ok (.istore_n 3, 1) := by decide +kernel
theorem eX11_rootOf_12 : decode cX11_rootOf 12 = .ok (.iload_n 3, 1) := by decide +kernel
theorem eX11_rootOf_13 : decode cX11_rootOf 13 = .ok (.bipush 100, 2) := by decide +kernel
theorem eX11_rootOf_15 : decode cX11_rootOf 15 = .ok (.if_icmp .lt 18, 3) := by decide +kernel
theorem eX11_rootOf_18 : decode cX11_rootOf 18 = .ok (.aload_n 0, 1) := by decide +kernel
theorem eX11_rootOf_19 : decode cX11_rootOf 19 = .ok (.getfield 30, 3) := by decide +kernel
theorem eX11_rootOf_22 : decode cX11_rootOf 22 = .ok (.bipush 8, 2) := by decide +kernel
theorem eX11_rootOf_24 : decode cX11_rootOf 24 = .ok (.iload_n 1, 1) := by decide +kernel
theorem eX11_rootOf_25 : decode cX11_rootOf 25 = .ok (.imul, 1) := by decide +kernel
theorem eX11_rootOf_26 : decode cX11_rootOf 26 = .ok (.iload_n 3, 1) := by decide +kernel
theorem eX11_rootOf_27 : decode cX11_rootOf 27 = .ok (.iadd, 1) := by decide +kernel
theorem eX11_rootOf_28 : decode cX11_rootOf 28 = .ok (.bipush 100, 2) := by decide +kernel
theorem eX11_rootOf_30 : decode cX11_rootOf 30 = .ok (.isub, 1) := by decide +kernel
theorem eX11_rootOf_31 : decode cX11_rootOf 31 = .ok (.iaload, 1) := by decide +kernel
theorem eX11_rootOf_32 : decode cX11_rootOf 32 = .ok (.ireturn, 1) := by decide +kernel
theorem eX11_rootOf_33 : decode cX11_rootOf 33 = .ok (.aload_n 0, 1) := by decide +kernel
theorem eX11_rootOf_34 : decode cX11_rootOf 34 = .ok (.getfield 33, 3) := by decide +kernel
theorem eX11_rootOf_37 : decode cX11_rootOf 37 = .ok (.bipush 40, 2) := by decide +kernel
theorem eX11_rootOf_39 : decode cX11_rootOf 39 = .ok (.iload_n 1, 1) := by decide +kernel
theorem eX11_rootOf_40 : decode cX11_rootOf 40 = .ok (.imul, 1) := by decide +kernel
theorem eX11_rootOf_41 : decode cX11_rootOf 41 = .ok (.iload_n 3, 1) := by decide +kernel
theorem eX11_rootOf_42 : decode cX11_rootOf 42 = .ok (.iadd, 1) := by decide +kernel
theorem eX11_rootOf_43 : decode cX11_rootOf 43 = .ok (.iaload, 1) := by decide +kernel
theorem eX11_rootOf_44 : decode cX11_rootOf 44 = .ok (.iconst 4, 1) := by decide +kernel
theorem eX11_rootOf_45 : decode cX11_rootOf 45 = .ok (.if_icmp .ne 19, 3) := by decide +kernel
theorem eX11_rootOf_48 : decode cX11_rootOf 48 = .ok (.aload_n 0, 1) := by decide +kernel
theorem eX11_rootOf_49 : decode cX11_rootOf 49 = .ok (.getfield 51, 3) := by decide +kernel
theorem eX11_rootOf_52 : decode cX11_rootOf 52 = .ok (.iconst 3, 1) := by decide +kernel
theorem eX11_rootOf_53 : decode cX11_rootOf 53 = .ok (.bipush 40, 2) := by decide +kernel
theorem eX11_rootOf_55 : decode cX11_rootOf 55 = .ok (.iload_n 1, 1) := by decide +kernel
theorem eX11_rootOf_56 : decode cX11_rootOf 56 = .ok (.imul, 1) := by decide +kernel
theorem eX11_rootOf_57 : decode cX11_rootOf 57 = .ok (.iload_n 3, 1) := by decide +kernel
theorem eX11_rootOf_58 : decode cX11_rootOf 58 = .ok (.iadd, 1) := by decide +kernel
theorem eX11_rootOf_59 : decode cX11_rootOf 59 = .ok (.imul, 1) := by decide +kernel
theorem eX11_rootOf_60 : decode cX11_rootOf 60 = .ok (.iaload, 1) := by decide +kernel
theorem eX11_rootOf_61 : decode cX11_rootOf 61 = .ok (.goto 4, 3) := by decide +kernel
theorem eX11_rootOf_64 : decode cX11_rootOf 64 = .ok (.iconst (-1), 1) := by decide +kernel
theorem eX11_rootOf_65 : decode cX11_rootOf 65 = .ok (.ireturn, 1) := by decide +kernel
def C_X11_rootOf (s : ST) (p : Int) (q : Int) (Q : ST → Int → Prop) : Prop := bx <| RA s → R32 p → R32 q → q_met mX11_rootOf (qs layM s) [.ref 139, .int (Int32.ofInt p), .int (Int32.ofInt q)] (PI layM Q)
theorem C_X11_rootOf.mono {s : ST} {p : Int} {q : Int} {Q Q' : ST → Int → Prop} (h : C_X11_rootOf s p q Q) (hq : ∀ s v, Q s v → Q' s v) : C_X11_rootOf s p q Q' := ⟨fun hA hrp hrq => q_met.mono (h.1 hA hrp hrq) (fun _ _ => PI.mono hq), trivial⟩
set_option maxRecDepth 20000 in
theorem s_X11_rootOf {s : ST} {p : Int} {q : Int} {Q : ST → Int → Prop} (h : RA s → R32 p → R32 q → (R32 (40 * p) ∧ (R32 ((40 * p) + q) ∧ (((0 : Int) ≤ ((40 * p) + q) ∧ ((40 * p) + q) < 240) ∧ ((s.1 153 ((40 * p) + q) < 100 → (R32 ((40 * p) + s.1 153 ((40 * p) + q)) ∧ (((0 : Int) ≤ ((40 * p) + s.1 153 ((40 * p) + q)) ∧ ((40 * p) + s.1 153 ((40 * p) + q)) < 240) ∧ ((¬ s.1 146 ((40 * p) + s.1 153 ((40 * p) + q)) = 4 → Q s (-1)) ∧ (s.1 146 ((40 * p) + s.1 153 ((40 * p) + q)) = 4 → (R32 (3 * ((40 * p) + s.1 153 ((40 * p) + q))) ∧ (((0 : Int) ≤ (3 * ((40 * p) + s.1 153 ((40 * p) + q))) ∧ (3 * ((40 * p) + s.1 153 ((40 * p) + q))) < 720) ∧ Q s (s.1 152 (3 * ((40 * p) + s.1 153 ((40 * p) + q))))))))))) ∧ (¬ s.1 153 ((40 * p) + q) < 100 → (R32 (8 * p) ∧ (R32 ((8 * p) + s.1 153 ((40 * p) + q)) ∧ (R32 (((8 * p) + s.1 153 ((40 * p) + q)) - 100) ∧ (((0 : Int) ≤ (((8 * p) + s.1 153 ((40 * p) + q)) - 100) ∧ (((8 * p) + s.1 153 ((40 * p) + q)) - 100) < 48) ∧ Q s (s.1 145 (((8 * p) + s.1 153 ((40 * p) + q)) - 100)))))))))))) : C_X11_rootOf s p q Q := by
  refine ⟨?_, trivial⟩
  intro hA hrp hrq
  have h := h hA hrp hrq
  refine q_enter (by decide) (Nat.le_of_ble_eq_true rfl) ?_
  refine q_aload_n eX11_rootOf_0 rfl ?_
  refine q_getR (c := 11) (n := 0) (k := 22) (a := 153) eX11_rootOf_1 rfl (by decide) (by decide) fX11_54 rfl rfl ?_
  refine q_bi (v := Int32.ofInt 40) eX11_rootOf_4 rfl ?_
  refine q_iload_n eX11_rootOf_6 rfl ?_
  refine z_imul eX11_rootOf_7 ?_
  have r1 := h.1
  have h := h.2
  refine q_iload_n eX11_rootOf_8 rfl ?_
  refine z_iadd eX11_rootOf_9 ?_
  have r2 := h.1
  have h := h.2
  have f3 := h.1
  have h := h.2
  refine z_iald (n := 240) eX11_rootOf_10 rfl (ofz r2) f3 ?_
  refine q_topI (v := Int32.ofInt (s.1 153 ((40 * p) + q))) rfl ?_
  refine q_istore_n eX11_rootOf_11 (Nat.le_of_ble_eq_true rfl) ?_
  refine q_iload_n eX11_rootOf_12 rfl ?_
  refine q_bi (v := Int32.ofInt 100) eX11_rootOf_13 rfl ?_
  refine q_cz_lt (tgt := 33) (a := s.1 153 ((40 * p) + q)) (b := 100) eX11_rootOf_15 (by decide) (ofz (hA _ _)) (ofz (r32l rfl)) (fun c15 => ?_) (fun c15 => ?_)
  · have h := h.1 c15
    refine q_aload_n eX11_rootOf_33 rfl ?_
    refine q_getR (c := 11) (n := 0) (k := 15) (a := 146) eX11_rootOf_34 rfl (by decide) (by decide) fX11_33 rfl rfl ?_
    refine q_bi (v := Int32.ofInt 40) eX11_rootOf_37 rfl ?_
    refine q_iload_n eX11_rootOf_39 rfl ?_
    refine z_imul eX11_rootOf_40 ?_
    refine q_iload_n eX11_rootOf_41 rfl ?_
    refine z_iadd eX11_rootOf_42 ?_
    have r4 := h.1
    have h := h.2
    have f5 := h.1
    have h := h.2
    refine z_iald (n := 240) eX11_rootOf_43 rfl (ofz r4) f5 ?_
    refine q_topI (v := Int32.ofInt (s.1 146 ((40 * p) + s.1 153 ((40 * p) + q)))) rfl ?_
    refine q_ic (v := Int32.ofInt 4) eX11_rootOf_44 rfl ?_
    refine q_cz_ne (tgt := 64) (a := s.1 146 ((40 * p) + s.1 153 ((40 * p) + q))) (b := 4) eX11_rootOf_45 (by decide) (ofz (hA _ _)) (ofz (r32l rfl)) (fun c45 => ?_) (fun c45 => ?_)
    · have h := h.1 c45
      refine q_ic (v := Int32.ofInt (-1)) eX11_rootOf_64 rfl ?_
      exact q_iret eX11_rootOf_65 rfl ⟨_, _, rfl, hA, (r32l rfl), rfl, h⟩
    · have h := h.2 c45
      refine q_aload_n eX11_rootOf_48 rfl ?_
      refine q_getR (c := 11) (n := 0) (k := 21) (a := 152) eX11_rootOf_49 rfl (by decide) (by decide) fX11_51 rfl rfl ?_
      refine q_ic (v := Int32.ofInt 3) eX11_rootOf_52 rfl ?_
      refine q_bi (v := Int32.ofInt 40) eX11_rootOf_53 rfl ?_
      refine q_iload_n eX11_rootOf_55 rfl ?_
      refine z_imul eX11_rootOf_56 ?_
      refine q_iload_n eX11_rootOf_57 rfl ?_
      refine z_iadd eX11_rootOf_58 ?_
      refine z_imul eX11_rootOf_59 ?_
      have r6 := h.1
      have h := h.2
      have f7 := h.1
      have h := h.2
      refine z_iald (n := 720) eX11_rootOf_60 rfl (ofz r6) f7 ?_
      refine q_topI (v := Int32.ofInt (s.1 152 (3 * ((40 * p) + s.1 153 ((40 * p) + q))))) rfl ?_
      refine q_goto (tgt := 65) eX11_rootOf_61 (by decide) ?_
      exact q_iret eX11_rootOf_65 rfl ⟨_, _, rfl, hA, (hA _ _), rfl, h⟩
  · have h := h.2 c15
    refine q_aload_n eX11_rootOf_18 rfl ?_
    refine q_getR (c := 11) (n := 0) (k := 14) (a := 145) eX11_rootOf_19 rfl (by decide) (by decide) fX11_30 rfl rfl ?_
    refine q_bi (v := Int32.ofInt 8) eX11_rootOf_22 rfl ?_
    refine q_iload_n eX11_rootOf_24 rfl ?_
    refine z_imul eX11_rootOf_25 ?_
    have r8 := h.1
    have h := h.2
    refine q_iload_n eX11_rootOf_26 rfl ?_
    refine z_iadd eX11_rootOf_27 ?_
    have r9 := h.1
    have h := h.2
    refine q_bi (v := Int32.ofInt 100) eX11_rootOf_28 rfl ?_
    refine z_isub eX11_rootOf_30 ?_
    have r10 := h.1
    have h := h.2
    have f11 := h.1
    have h := h.2
    refine z_iald (n := 48) eX11_rootOf_31 rfl (ofz r10) f11 ?_
    refine q_topI (v := Int32.ofInt (s.1 145 (((8 * p) + s.1 153 ((40 * p) + q)) - 100))) rfl ?_
    exact q_iret eX11_rootOf_32 rfl ⟨_, _, rfl, hA, (hA _ _), rfl, h⟩
def F_X11_rootOf (s : ST) (p : Int) (q : Int) : Int := (if s.1 153 ((40 * p) + q) < 100 then (if s.1 146 ((40 * p) + s.1 153 ((40 * p) + q)) = 4 then s.1 152 (3 * ((40 * p) + s.1 153 ((40 * p) + q))) else (-1)) else s.1 145 (((8 * p) + s.1 153 ((40 * p) + q)) - 100))
abbrev P_X11_rootOf (s : ST) (p : Int) (q : Int) : Prop := (R32 (40 * p) ∧ R32 ((40 * p) + q) ∧ ((0 : Int) ≤ ((40 * p) + q) ∧ ((40 * p) + q) < 240) ∧ ((s.1 153 ((40 * p) + q) < 100 → (R32 ((40 * p) + s.1 153 ((40 * p) + q)) ∧ ((0 : Int) ≤ ((40 * p) + s.1 153 ((40 * p) + q)) ∧ ((40 * p) + s.1 153 ((40 * p) + q)) < 240) ∧ (s.1 146 ((40 * p) + s.1 153 ((40 * p) + q)) = 4 → (R32 (3 * ((40 * p) + s.1 153 ((40 * p) + q))) ∧ ((0 : Int) ≤ (3 * ((40 * p) + s.1 153 ((40 * p) + q))) ∧ (3 * ((40 * p) + s.1 153 ((40 * p) + q))) < 720))))) ∧ (¬ s.1 153 ((40 * p) + q) < 100 → (R32 (8 * p) ∧ R32 ((8 * p) + s.1 153 ((40 * p) + q)) ∧ R32 (((8 * p) + s.1 153 ((40 * p) + q)) - 100) ∧ ((0 : Int) ≤ (((8 * p) + s.1 153 ((40 * p) + q)) - 100) ∧ (((8 * p) + s.1 153 ((40 * p) + q)) - 100) < 48)))))
theorem w_X11_rootOf {s : ST} {p : Int} {q : Int} (h : P_X11_rootOf s p q) : C_X11_rootOf s p q (fun s' v => s' = s ∧ v = F_X11_rootOf s p q) := by
  refine s_X11_rootOf (fun hA hrp hrq => ?_)
  unfold P_X11_rootOf at h
  refine ⟨h.1, ?_⟩
  have h := h.2
  refine ⟨h.1, ?_⟩
  have h := h.2
  refine ⟨h.1, ?_⟩
  have h := h.2
  refine ⟨fun e0 => ?_, fun e0 => ?_⟩
  · have h := h.1 e0
    refine ⟨h.1, ?_⟩
    have h := h.2
    refine ⟨h.1, ?_⟩
    have h := h.2
    refine ⟨fun e1 => ?_, fun e1 => ?_⟩
    · exact ⟨rfl, by unfold F_X11_rootOf; rw [if_pos e0, if_neg e1]⟩
    · have h := h e1
      refine ⟨h.1, ?_⟩
      have h := h.2
      refine ⟨h, ?_⟩
      exact ⟨rfl, by unfold F_X11_rootOf; rw [if_pos e0, if_pos e1]⟩
  · have h := h.2 e0
    refine ⟨h.1, ?_⟩
    have h := h.2
    refine ⟨h.1, ?_⟩
    have h := h.2
    refine ⟨h.1, ?_⟩
    have h := h.2
    refine ⟨h, ?_⟩
    exact ⟨rfl, by unfold F_X11_rootOf; rw [if_neg e0]⟩
theorem p_X11_rootOf {s : ST} {p : Int} {q : Int} (h : P_X11_rootOf s p q) : RA s → R32 p → R32 q → q_met mX11_rootOf (qs layM s) [.ref 139, .int (Int32.ofInt p), .int (Int32.ofInt q)] (fun σ r => R32 (F_X11_rootOf s p q) ∧ σ = qs layM s ∧ r = some (.int (Int32.ofInt (F_X11_rootOf s p q)))) := fun hA hrp hrq => q_met.mono ((w_X11_rootOf h).1 hA hrp hrq) (by
  rintro _ _ ⟨s1, v1, rfl, h1, h2, rfl, rfl, rfl⟩
  exact ⟨h2, rfl, rfl⟩)
theorem eX11_asksHere_0 : decode cX11_asksHere 0 = .ok (.bipush 40, 2) := by decide +kernel
theorem eX11_asksHere_2 : decode cX11_asksHere 2 = .ok (.iload_n 1, 1) := by decide +kernel
theorem eX11_asksHere_3 : decode cX11_asksHere 3 = .ok (.imul, 1) := by decide +kernel
theorem eX11_asksHere_4 : decode cX11_asksHere 4 = .ok (.iload_n 2, 1) := by decide +kernel
theorem eX11_asksHere_5 : decode cX11_asksHere 5 = .ok (.iadd, 1) := by decide +kernel
theorem eX11_asksHere_6 : decode cX11_asksHere 6 = .ok (.istore_n 3, 1) := by decide +kernel
theorem eX11_asksHere_7 : decode cX11_asksHere 7 = .ok (.iconst 1, 1) := by decide +kernel
theorem eX11_asksHere_8 : decode cX11_asksHere 8 = .ok (.istore 4, 2) := by decide +kernel
theorem eX11_asksHere_10 : decode cX11_asksHere 10 = .ok (.iconst 0, 1) := by decide +kernel
theorem eX11_asksHere_11 : decode cX11_asksHere 11 = .ok (.istore 5, 2) := by decide +kernel
theorem eX11_asksHere_13 : decode cX11_asksHere 13 = .ok (.iload 5, 2) := by decide +kernel
theorem eX11_asksHere_15 : decode cX11_asksHere 15 = .ok (.aload_n 0, 1) := by decide +kernel
theorem eX11_asksHere_16 : decode cX11_asksHere 16 = .ok (.getfield 33, 3) := by decide +kernel
theorem eX11_asksHere_19 : decode cX11_asksHere 19 = .ok (.iload_n 3, 1) := by decide +kernel
theorem eX11_asksHere_20 : decode cX11_asksHere 20 = .ok (.iaload, 1) := by decide +kernel
theorem eX11_asksHere_21 : decode cX11_asksHere 21 = .ok (.invokestatic 365, 3) := by decide +kernel
theorem eX11_asksHere_24 : decode cX11_asksHere 24 = .ok (.if_icmp .ge 35, 3) := by decide +kernel
theorem eX11_asksHere_27 : decode cX11_asksHere 27 = .ok (.iload 4, 2) := by decide +kernel
theorem eX11_asksHere_29 : decode cX11_asksHere 29 = .ok (.aload_n 0, 1) := by decide +kernel
theorem eX11_asksHere_30 : decode cX11_asksHere 30 = .ok (.getfield 48, 3) := by decide +kernel
theorem eX11_asksHere_33 : decode cX11_asksHere 33 = .ok (.bipush 40, 2) := by decide +kernel
theorem eX11_asksHere_35 : decode cX11_asksHere 35 = .ok (.iload_n 1, 1) := by decide +kernel
theorem eX11_asksHere_36 : decode cX11_asksHere 36 = .ok (.imul, 1) := by decide +kernel
theorem eX11_asksHere_37 : decode cX11_asksHere 37 = .ok (.aload_n 0, 1) := by decide +kernel
theorem eX11_asksHere_38 : decode cX11_asksHere 38 = .ok (.getfield 51, 3) := by decide +kernel
theorem eX11_asksHere_41 : decode cX11_asksHere 41 = .ok (.iconst 3, 1) := by decide +kernel
theorem eX11_asksHere_42 : decode cX11_asksHere 42 = .ok (.iload_n 3, 1) := by decide +kernel
theorem eX11_asksHere_43 : decode cX11_asksHere 43 = .ok (.imul, 1) := by decide +kernel
theorem eX11_asksHere_44 : decode cX11_asksHere 44 = .ok (.iload 5, 2) := by decide +kernel
theorem eX11_asksHere_46 : decode cX11_asksHere 46 = .ok (.iadd, 1) := by decide +kernel
theorem eX11_asksHere_47 : decode cX11_asksHere 47 = .ok (.iaload, 1) := by decide +kernel
theorem eX11_asksHere_48 : decode cX11_asksHere 48 = .ok (.iadd, 1) := by decide +kernel
theorem eX11_asksHere_49 : decode cX11_asksHere 49 = .ok (.iaload, 1) := by decide +kernel
theorem eX11_asksHere_50 : decode cX11_asksHere 50 = .ok (.iadd, 1) := by decide +kernel
theorem eX11_asksHere_51 : decode cX11_asksHere 51 = .ok (.istore 4, 2) := by decide +kernel
theorem eX11_asksHere_53 : decode cX11_asksHere 53 = .ok (.iinc 5 1, 3) := by decide +kernel
theorem eX11_asksHere_56 : decode cX11_asksHere 56 = .ok (.goto (-43), 3) := by decide +kernel
theorem eX11_asksHere_59 : decode cX11_asksHere 59 = .ok (.aload_n 0, 1) := by decide +kernel
theorem eX11_asksHere_60 : decode cX11_asksHere 60 = .ok (.getfield 33, 3) := by decide +kernel
theorem eX11_asksHere_63 : decode cX11_asksHere 63 = .ok (.iload_n 3, 1) := by decide +kernel
theorem eX11_asksHere_64 : decode cX11_asksHere 64 = .ok (.iaload, 1) := by decide +kernel
theorem eX11_asksHere_65 : decode cX11_asksHere 65 = .ok (.iconst 2, 1) := by decide +kernel
theorem eX11_asksHere_66 : decode cX11_asksHere 66 = .ok (.if_icmp .ne 33, 3) := by decide +kernel
theorem eX11_asksHere_69 : decode cX11_asksHere 69 = .ok (.aload_n 0, 1) := by decide +kernel
theorem eX11_asksHere_70 : decode cX11_asksHere 70 = .ok (.iload_n 1, 1) := by decide +kernel
theorem eX11_asksHere_71 : decode cX11_asksHere 71 = .ok (.iload_n 2, 1) := by decide +kernel
theorem eX11_asksHere_72 : decode cX11_asksHere 72 = .ok (.invokevirtual 372, 3) := by decide +kernel
theorem eX11_asksHere_75 : decode cX11_asksHere 75 = .ok (.ifCond .lt 24, 3) := by decide +kernel
theorem eX11_asksHere_78 : decode cX11_asksHere 78 = .ok (.iload 4, 2) := by decide +kernel
theorem eX11_asksHere_80 : decode cX11_asksHere 80 = .ok (.aload_n 0, 1) := by decide +kernel
theorem eX11_asksHere_81 : decode cX11_asksHere 81 = .ok (.getfield 48, 3) := by decide +kernel
theorem eX11_asksHere_84 : decode cX11_asksHere 84 = .ok (.bipush 40, 2) := by decide +kernel
theorem eX11_asksHere_86 : decode cX11_asksHere 86 = .ok (.iload_n 1, 1) := by decide +kernel
theorem eX11_asksHere_87 : decode cX11_asksHere 87 = .ok (.imul, 1) := by decide +kernel
theorem eX11_asksHere_88 : decode cX11_asksHere 88 = .ok (.aload_n 0, 1) := by decide +kernel
theorem eX11_asksHere_89 : decode cX11_asksHere 89 = .ok (.iload_n 1, 1) := by decide +kernel
theorem eX11_asksHere_90 : decode cX11_asksHere 90 = .ok (.iload_n 2, 1) := by decide +kernel
theorem eX11_asksHere_91 : decode cX11_asksHere 91 = .ok (.invokevirtual 372, 3) := by decide +kernel
theorem eX11_asksHere_94 : decode cX11_asksHere 94 = .ok (.iadd, 1) := by decide +kernel
theorem eX11_asksHere_95 : decode cX11_asksHere 95 = .ok (.iaload, 1) := by decide +kernel
theorem eX11_asksHere_96 : decode cX11_asksHere 96 = .ok (.iadd, 1) := by decide +kernel
theorem eX11_asksHere_97 : decode cX11_asksHere 97 = .ok (.istore 4, 2) := by decide +kernel
theorem eX11_asksHere_99 : decode cX11_asksHere 99 = .ok (.iload 4, 2) := by decide +kernel
theorem eX11_asksHere_101 : decode cX11_asksHere 101 = .ok (.ldc_w 375, 3) := by decide +kernel
theorem eX11_asksHere_104 : decode cX11_asksHere 104 = .ok (.if_icmp .le 9, 3) := by decide +kernel
theorem eX11_asksHere_107 : decode cX11_asksHere 107 = .ok (.ldc_w 375, 3) := by decide +kernel
theorem eX11_asksHere_110 : decode cX11_asksHere 110 = .ok (.goto 5, 3) := by decide +kernel
theorem eX11_asksHere_113 : decode cX11_asksHere 113 = .ok (.iload 4, 2) := by decide +kernel
theorem eX11_asksHere_115 : decode cX11_asksHere 115 = .ok (.ireturn, 1) := by decide +kernel
def C_X11_asksHere (s : ST) (p : Int) (q : Int) (Q : ST → Int → Prop) : Prop := bx <| RA s → R32 p → R32 q → q_met mX11_asksHere (qs layM s) [.ref 139, .int (Int32.ofInt p), .int (Int32.ofInt q)] (PI layM Q)
theorem C_X11_asksHere.mono {s : ST} {p : Int} {q : Int} {Q Q' : ST → Int → Prop} (h : C_X11_asksHere s p q Q) (hq : ∀ s v, Q s v → Q' s v) : C_X11_asksHere s p q Q' := ⟨fun hA hrp hrq => q_met.mono (h.1 hA hrp hrq) (fun _ _ => PI.mono hq), trivial⟩
def K_X11_asksHere_99 (s : ST) (a4 : Int) (Q : ST → Int → Prop) : Prop := bx <| RA s → R32 a4 → q_K mX11_asksHere (qs layM s) 0 0 99 [(4, .int (Int32.ofInt a4))] [] (q_fin mX11_asksHere (PI layM Q))
def K_X11_asksHere_13 (s : ST) (a1 : Int) (a2 : Int) (a3 : Int) (a4 : Int) (a5 : Int) (Q : ST → Int → Prop) : Prop := bx <| RA s → R32 a1 → R32 a2 → R32 a3 → R32 a4 → R32 a5 → q_K mX11_asksHere (qs layM s) 0 0 13 [(0, .ref 139), (1, .int (Int32.ofInt a1)), (2, .int (Int32.ofInt a2)), (3, .int (Int32.ofInt a3)), (4, .int (Int32.ofInt a4)), (5, .int (Int32.ofInt a5))] [] (q_fin mX11_asksHere (PI layM Q))
set_option maxRecDepth 20000 in
theorem s_X11_asksHere_99 {s : ST} {a4 : Int} {Q : ST → Int → Prop} (h : RA s → R32 a4 → ((a4 ≤ 1000000 → Q s a4) ∧ (¬ a4 ≤ 1000000 → Q s 1000000))) : K_X11_asksHere_99 s a4 Q := by
  refine ⟨?_, trivial⟩
  intro hA hra4
  have h := h hA hra4
  refine q_iload eX11_asksHere_99 rfl ?_
  refine q_ldcw (v := 1000000) eX11_asksHere_101 nX11_375 ?_
  refine q_topI (v := Int32.ofInt 1000000) rfl ?_
  refine q_cz_le (tgt := 113) (a := a4) (b := 1000000) eX11_asksHere_104 (by decide) (ofz hra4) (ofz (r32l rfl)) (fun c104 => ?_) (fun c104 => ?_)
  · have h := h.1 c104
    refine q_iload eX11_asksHere_113 rfl ?_
    exact q_iret eX11_asksHere_115 rfl ⟨_, _, rfl, hA, hra4, rfl, h⟩
  · have h := h.2 c104
    refine q_ldcw (v := 1000000) eX11_asksHere_107 nX11_375 ?_
    refine q_topI (v := Int32.ofInt 1000000) rfl ?_
    refine q_goto (tgt := 115) eX11_asksHere_110 (by decide) ?_
    exact q_iret eX11_asksHere_115 rfl ⟨_, _, rfl, hA, (r32l rfl), rfl, h⟩
set_option maxRecDepth 20000 in
theorem s_X11_asksHere_13 {s : ST} {a1 : Int} {a2 : Int} {a3 : Int} {a4 : Int} {a5 : Int} {Q : ST → Int → Prop} (h : RA s → R32 a1 → R32 a2 → R32 a3 → R32 a4 → R32 a5 → (((0 : Int) ≤ a3 ∧ a3 < 240) ∧ (((F_X11_kidsOf s (s.1 146 a3)) ≤ a5 → ((¬ s.1 146 a3 = 2 → K_X11_asksHere_99 s a4 Q) ∧ (s.1 146 a3 = 2 → (P_X11_rootOf s a1 a2 ∧ (((F_X11_rootOf s a1 a2) < 0 → K_X11_asksHere_99 s a4 Q) ∧ (¬ (F_X11_rootOf s a1 a2) < 0 → (R32 (40 * a1) ∧ (R32 ((40 * a1) + (F_X11_rootOf s a1 a2)) ∧ (((0 : Int) ≤ ((40 * a1) + (F_X11_rootOf s a1 a2)) ∧ ((40 * a1) + (F_X11_rootOf s a1 a2)) < 240) ∧ (R32 (a4 + s.1 151 ((40 * a1) + (F_X11_rootOf s a1 a2))) ∧ K_X11_asksHere_99 s (a4 + s.1 151 ((40 * a1) + (F_X11_rootOf s a1 a2))) Q)))))))))) ∧ (¬ (F_X11_kidsOf s (s.1 146 a3)) ≤ a5 → (R32 (40 * a1) ∧ (R32 (3 * a3) ∧ (R32 ((3 * a3) + a5) ∧ (((0 : Int) ≤ ((3 * a3) + a5) ∧ ((3 * a3) + a5) < 720) ∧ (R32 ((40 * a1) + s.1 152 ((3 * a3) + a5)) ∧ (((0 : Int) ≤ ((40 * a1) + s.1 152 ((3 * a3) + a5)) ∧ ((40 * a1) + s.1 152 ((3 * a3) + a5)) < 240) ∧ (R32 (a4 + s.1 151 ((40 * a1) + s.1 152 ((3 * a3) + a5))) ∧ (R32 (a5 + 1) ∧ K_X11_asksHere_13 s a1 a2 a3 (a4 + s.1 151 ((40 * a1) + s.1 152 ((3 * a3) + a5))) (a5 + 1) Q)))))))))))) : K_X11_asksHere_13 s a1 a2 a3 a4 a5 Q := by
  refine ⟨?_, trivial⟩
  intro hA hra1 hra2 hra3 hra4 hra5
  have h := h hA hra1 hra2 hra3 hra4 hra5
  refine q_iload eX11_asksHere_13 rfl ?_
  refine q_aload_n eX11_asksHere_15 rfl ?_
  refine q_getR (c := 11) (n := 0) (k := 15) (a := 146) eX11_asksHere_16 rfl (by decide) (by decide) fX11_33 rfl rfl ?_
  refine q_iload_n eX11_asksHere_19 rfl ?_
  have f1 := h.1
  have h := h.2
  refine z_iald (n := 240) eX11_asksHere_20 rfl (ofz hra3) f1 ?_
  refine q_topI (v := Int32.ofInt (s.1 146 a3)) rfl ?_
  refine q_S1 eX11_asksHere_21 DX11_kidsOf lX11_365 rfl rfl rfl (p_X11_kidsOf hA (hA _ _)) ?_
  rintro _ _ ⟨r2, rfl, rfl⟩
  refine q_cz_ge (tgt := 59) (a := a5) (b := (F_X11_kidsOf s (s.1 146 a3))) eX11_asksHere_24 (by decide) (ofz hra5) (ofz r2) (fun c24 => ?_) (fun c24 => ?_)
  · have h := h.1 c24
    refine q_aload_n eX11_asksHere_59 rfl ?_
    refine q_getR (c := 11) (n := 0) (k := 15) (a := 146) eX11_asksHere_60 rfl (by decide) (by decide) fX11_33 rfl rfl ?_
    refine q_iload_n eX11_asksHere_63 rfl ?_
    refine z_iald (n := 240) eX11_asksHere_64 rfl (ofz hra3) f1 ?_
    refine q_topI (v := Int32.ofInt (s.1 146 a3)) rfl ?_
    refine q_ic (v := Int32.ofInt 2) eX11_asksHere_65 rfl ?_
    refine q_cz_ne (tgt := 99) (a := s.1 146 a3) (b := 2) eX11_asksHere_66 (by decide) (ofz (hA _ _)) (ofz (r32l rfl)) (fun c66 => ?_) (fun c66 => ?_)
    · have h := h.1 c66
      exact q_subL rfl (h.1 hA hra4)
    · have h := h.2 c66
      refine q_aload_n eX11_asksHere_69 rfl ?_
      refine q_iload_n eX11_asksHere_70 rfl ?_
      refine q_iload_n eX11_asksHere_71 rfl ?_
      have f4 := h.1
      have h := h.2
      refine q_V2 (ci := 11) (n := 0) eX11_asksHere_72 DX11_rootOf lX11_372 rfl (by decide) rfl rfl rfl rfl (p_X11_rootOf f4 hA hra1 hra2) ?_
      rintro _ _ ⟨r3, rfl, rfl⟩
      refine q_iz_lt (tgt := 99) (a := (F_X11_rootOf s a1 a2)) eX11_asksHere_75 (by decide) (ofz r3) (fun c75 => ?_) (fun c75 => ?_)
      · have h := h.1 c75
        exact q_subL rfl (h.1 hA hra4)
      · have h := h.2 c75
        refine q_iload eX11_asksHere_78 rfl ?_
        refine q_aload_n eX11_asksHere_80 rfl ?_
        refine q_getR (c := 11) (n := 0) (k := 20) (a := 151) eX11_asksHere_81 rfl (by decide) (by decide) fX11_48 rfl rfl ?_
        refine q_bi (v := Int32.ofInt 40) eX11_asksHere_84 rfl ?_
        refine q_iload_n eX11_asksHere_86 rfl ?_
        refine z_imul eX11_asksHere_87 ?_
        have r5 := h.1
        have h := h.2
        refine q_aload_n eX11_asksHere_88 rfl ?_
        refine q_iload_n eX11_asksHere_89 rfl ?_
        refine q_iload_n eX11_asksHere_90 rfl ?_
        refine q_V2 (ci := 11) (n := 0) eX11_asksHere_91 DX11_rootOf lX11_372 rfl (by decide) rfl rfl rfl rfl (p_X11_rootOf f4 hA hra1 hra2) ?_
        rintro _ _ ⟨r6, rfl, rfl⟩
        refine z_iadd eX11_asksHere_94 ?_
        have r7 := h.1
        have h := h.2
        have f8 := h.1
        have h := h.2
        refine z_iald (n := 240) eX11_asksHere_95 rfl (ofz r7) f8 ?_
        refine q_topI (v := Int32.ofInt (s.1 151 ((40 * a1) + (F_X11_rootOf s a1 a2)))) rfl ?_
        refine z_iadd eX11_asksHere_96 ?_
        have r9 := h.1
        have h := h.2
        refine q_istore eX11_asksHere_97 (Nat.le_of_ble_eq_true rfl) ?_
        exact q_subL rfl (h.1 hA r9)
  · have h := h.2 c24
    refine q_iload eX11_asksHere_27 rfl ?_
    refine q_aload_n eX11_asksHere_29 rfl ?_
    refine q_getR (c := 11) (n := 0) (k := 20) (a := 151) eX11_asksHere_30 rfl (by decide) (by decide) fX11_48 rfl rfl ?_
    refine q_bi (v := Int32.ofInt 40) eX11_asksHere_33 rfl ?_
    refine q_iload_n eX11_asksHere_35 rfl ?_
    refine z_imul eX11_asksHere_36 ?_
    have r10 := h.1
    have h := h.2
    refine q_aload_n eX11_asksHere_37 rfl ?_
    refine q_getR (c := 11) (n := 0) (k := 21) (a := 152) eX11_asksHere_38 rfl (by decide) (by decide) fX11_51 rfl rfl ?_
    refine q_ic (v := Int32.ofInt 3) eX11_asksHere_41 rfl ?_
    refine q_iload_n eX11_asksHere_42 rfl ?_
    refine z_imul eX11_asksHere_43 ?_
    have r11 := h.1
    have h := h.2
    refine q_iload eX11_asksHere_44 rfl ?_
    refine z_iadd eX11_asksHere_46 ?_
    have r12 := h.1
    have h := h.2
    have f13 := h.1
    have h := h.2
    refine z_iald (n := 720) eX11_asksHere_47 rfl (ofz r12) f13 ?_
    refine q_topI (v := Int32.ofInt (s.1 152 ((3 * a3) + a5))) rfl ?_
    refine z_iadd eX11_asksHere_48 ?_
    have r14 := h.1
    have h := h.2
    have f15 := h.1
    have h := h.2
    refine z_iald (n := 240) eX11_asksHere_49 rfl (ofz r14) f15 ?_
    refine q_topI (v := Int32.ofInt (s.1 151 ((40 * a1) + s.1 152 ((3 * a3) + a5)))) rfl ?_
    refine z_iadd eX11_asksHere_50 ?_
    have r16 := h.1
    have h := h.2
    refine q_istore eX11_asksHere_51 (Nat.le_of_ble_eq_true rfl) ?_
    have r17 := h.1
    have h := h.2
    refine z_inc (m := 1) eX11_asksHere_53 rfl (Nat.le_of_ble_eq_true rfl) rfl ?_
    refine q_goto (tgt := 13) eX11_asksHere_56 (by decide) ?_
    exact q_subL rfl (h.1 hA hra1 hra2 hra3 r16 r17)
set_option maxRecDepth 20000 in
theorem s_X11_asksHere {s : ST} {p : Int} {q : Int} {Q : ST → Int → Prop} (h : RA s → R32 p → R32 q → (R32 (40 * p) ∧ (R32 ((40 * p) + q) ∧ K_X11_asksHere_13 s p q ((40 * p) + q) 1 0 Q))) : C_X11_asksHere s p q Q := by
  refine ⟨?_, trivial⟩
  intro hA hrp hrq
  have h := h hA hrp hrq
  refine q_enter (by decide) (Nat.le_of_ble_eq_true rfl) ?_
  refine q_bi (v := Int32.ofInt 40) eX11_asksHere_0 rfl ?_
  refine q_iload_n eX11_asksHere_2 rfl ?_
  refine z_imul eX11_asksHere_3 ?_
  have r1 := h.1
  have h := h.2
  refine q_iload_n eX11_asksHere_4 rfl ?_
  refine z_iadd eX11_asksHere_5 ?_
  have r2 := h.1
  have h := h.2
  refine q_istore_n eX11_asksHere_6 (Nat.le_of_ble_eq_true rfl) ?_
  refine q_ic (v := Int32.ofInt 1) eX11_asksHere_7 rfl ?_
  refine q_istore eX11_asksHere_8 (Nat.le_of_ble_eq_true rfl) ?_
  refine q_ic (v := Int32.ofInt 0) eX11_asksHere_10 rfl ?_
  refine q_istore eX11_asksHere_11 (Nat.le_of_ble_eq_true rfl) ?_
  exact q_subL rfl (h.1 hA hrp hrq r2 (r32l rfl) (r32l rfl))
