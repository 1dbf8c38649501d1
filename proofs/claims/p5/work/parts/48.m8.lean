/-! STEP ROWS of the reference. By program (wip/wp/gen_parts.py). -/
theorem eX11_apply_0 : decode cX11_apply 0 = .ok (.aload_n 0, 1) := by decide +kernel
theorem eX11_apply_1 : decode cX11_apply 1 = .ok (.getfield 20, 3) := by decide +kernel
theorem eX11_apply_4 : decode cX11_apply 4 = .ok (.aload_n 0, 1) := by decide +kernel
theorem eX11_apply_5 : decode cX11_apply 5 = .ok (.getfield 321, 3) := by decide +kernel
theorem eX11_apply_8 : decode cX11_apply 8 = .ok (.iaload, 1) := by decide +kernel
theorem eX11_apply_9 : decode cX11_apply 9 = .ok (.bipush 24, 2) := by decide +kernel
theorem eX11_apply_11 : decode cX11_apply 11 = .ok (.if_icmp .gt 7, 3) := by decide +kernel
theorem eX11_apply_14 : decode cX11_apply 14 = .ok (.iload_n 1, 1) := by decide +kernel
theorem eX11_apply_15 : decode cX11_apply 15 = .ok (.ifCond .ge 5, 3) := by decide +kernel
theorem eX11_apply_18 : decode cX11_apply 18 = .ok (.iconst (-1), 1) := by decide +kernel
theorem eX11_apply_19 : decode cX11_apply 19 = .ok (.ireturn, 1) := by decide +kernel
theorem eX11_apply_20 : decode cX11_apply 20 = .ok (.aload_n 0, 1) := by decide +kernel
theorem eX11_apply_21 : decode cX11_apply 21 = .ok (.invokevirtual 557, 3) := by decide +kernel
theorem eX11_apply_24 : decode cX11_apply 24 = .ok (.iload_n 1, 1) := by decide +kernel
theorem eX11_apply_25 : decode cX11_apply 25 = .ok (.aload_n 0, 1) := by decide +kernel
theorem eX11_apply_26 : decode cX11_apply 26 = .ok (.getfield 542, 3) := by decide +kernel
theorem eX11_apply_29 : decode cX11_apply 29 = .ok (.if_icmp .lt 5, 3) := by decide +kernel
theorem eX11_apply_32 : decode cX11_apply 32 = .ok (.iconst (-1), 1) := by decide +kernel
theorem eX11_apply_33 : decode cX11_apply 33 = .ok (.ireturn, 1) := by decide +kernel
theorem eX11_apply_34 : decode cX11_apply 34 = .ok (.aload_n 0, 1) := by decide +kernel
theorem eX11_apply_35 : decode cX11_apply 35 = .ok (.getfield 155, 3) := by decide +kernel
theorem eX11_apply_38 : decode cX11_apply 38 = .ok (.iload_n 1, 1) := by decide +kernel
theorem eX11_apply_39 : decode cX11_apply 39 = .ok (.iaload, 1) := by decide +kernel
theorem eX11_apply_40 : decode cX11_apply 40 = .ok (.iconst 1, 1) := by decide +kernel
theorem eX11_apply_41 : decode cX11_apply 41 = .ok (.if_icmp .ne 13, 3) := by decide +kernel
theorem eX11_apply_44 : decode cX11_apply 44 = .ok (.aload_n 0, 1) := by decide +kernel
theorem eX11_apply_45 : decode cX11_apply 45 = .ok (.aload_n 0, 1) := by decide +kernel
theorem eX11_apply_46 : decode cX11_apply 46 = .ok (.getfield 152, 3) := by decide +kernel
theorem eX11_apply_49 : decode cX11_apply 49 = .ok (.iload_n 1, 1) := by decide +kernel
theorem eX11_apply_50 : decode cX11_apply 50 = .ok (.iaload, 1) := by decide +kernel
theorem eX11_apply_51 : decode cX11_apply 51 = .ok (.invokevirtual 554, 3) := by decide +kernel
theorem eX11_apply_54 : decode cX11_apply 54 = .ok (.aload_n 0, 1) := by decide +kernel
theorem eX11_apply_55 : decode cX11_apply 55 = .ok (.aload_n 0, 1) := by decide +kernel
theorem eX11_apply_56 : decode cX11_apply 56 = .ok (.getfield 152, 3) := by decide +kernel
theorem eX11_apply_59 : decode cX11_apply 59 = .ok (.iload_n 1, 1) := by decide +kernel
theorem eX11_apply_60 : decode cX11_apply 60 = .ok (.iaload, 1) := by decide +kernel
theorem eX11_apply_61 : decode cX11_apply 61 = .ok (.aload_n 0, 1) := by decide +kernel
theorem eX11_apply_62 : decode cX11_apply 62 = .ok (.getfield 155, 3) := by decide +kernel
theorem eX11_apply_65 : decode cX11_apply 65 = .ok (.iload_n 1, 1) := by decide +kernel
theorem eX11_apply_66 : decode cX11_apply 66 = .ok (.iaload, 1) := by decide +kernel
theorem eX11_apply_67 : decode cX11_apply 67 = .ok (.aload_n 0, 1) := by decide +kernel
theorem eX11_apply_68 : decode cX11_apply 68 = .ok (.getfield 158, 3) := by decide +kernel
theorem eX11_apply_71 : decode cX11_apply 71 = .ok (.iload_n 1, 1) := by decide +kernel
theorem eX11_apply_72 : decode cX11_apply 72 = .ok (.iaload, 1) := by decide +kernel
theorem eX11_apply_73 : decode cX11_apply 73 = .ok (.invokevirtual 545, 3) := by decide +kernel
theorem eX11_apply_76 : decode cX11_apply 76 = .ok (.pop, 1) := by decide +kernel
theorem eX11_apply_77 : decode cX11_apply 77 = .ok (.aload_n 0, 1) := by decide +kernel
theorem eX11_apply_78 : decode cX11_apply 78 = .ok (.iconst 1, 1) := by decide +kernel
theorem eX11_apply_79 : decode cX11_apply 79 = .ok (.aload_n 0, 1) := by decide +kernel
theorem eX11_apply_80 : decode cX11_apply 80 = .ok (.getfield 321, 3) := by decide +kernel
theorem eX11_apply_83 : decode cX11_apply 83 = .ok (.isub, 1) := by decide +kernel
theorem eX11_apply_84 : decode cX11_apply 84 = .ok (.putfield 321, 3) := by decide +kernel
theorem eX11_apply_87 : decode cX11_apply 87 = .ok (.aload_n 0, 1) := by decide +kernel
theorem eX11_apply_88 : decode cX11_apply 88 = .ok (.iconst 2, 1) := by decide +kernel
theorem eX11_apply_89 : decode cX11_apply 89 = .ok (.aload_n 0, 1) := by decide +kernel
theorem eX11_apply_90 : decode cX11_apply 90 = .ok (.getfield 321, 3) := by decide +kernel
theorem eX11_apply_93 : decode cX11_apply 93 = .ok (.invokevirtual 566, 3) := by decide +kernel
theorem eX11_apply_96 : decode cX11_apply 96 = .ok (.aload_n 0, 1) := by decide +kernel
theorem eX11_apply_97 : decode cX11_apply 97 = .ok (.invokevirtual 216, 3) := by decide +kernel
theorem eX11_apply_100 : decode cX11_apply 100 = .ok (.aload_n 0, 1) := by decide +kernel
theorem eX11_apply_101 : decode cX11_apply 101 = .ok (.getfield 20, 3) := by decide +kernel
theorem eX11_apply_104 : decode cX11_apply 104 = .ok (.aload_n 0, 1) := by decide +kernel
theorem eX11_apply_105 : decode cX11_apply 105 = .ok (.getfield 321, 3) := by decide +kernel
theorem eX11_apply_108 : decode cX11_apply 108 = .ok (.iaload, 1) := by decide +kernel
theorem eX11_apply_109 : decode cX11_apply 109 = .ok (.ireturn, 1) := by decide +kernel
def C_X11_apply (s : ST) (p : Int) (Q : ST → Int → Prop) : Prop := bx <| RA s → R32 p → q_met mX11_apply (qs layM s) [.ref 139, .int (Int32.ofInt p)] (PI layM Q)
theorem C_X11_apply.mono {s : ST} {p : Int} {Q Q' : ST → Int → Prop} (h : C_X11_apply s p Q) (hq : ∀ s v, Q s v → Q' s v) : C_X11_apply s p Q' := ⟨fun hA hrp => q_met.mono (h.1 hA hrp) (fun _ _ => PI.mono hq), trivial⟩
def K_X11_apply_54 (s : ST) (a1 : Int) (Q : ST → Int → Prop) : Prop := bx <| RA s → R32 a1 → q_K mX11_apply (qs layM s) 0 0 54 [(0, .ref 139), (1, .int (Int32.ofInt a1))] [] (q_fin mX11_apply (PI layM Q))
set_option maxRecDepth 20000 in
theorem s_X11_apply_54 {s : ST} {a1 : Int} {Q : ST → Int → Prop} (h : RA s → R32 a1 → (((0 : Int) ≤ a1 ∧ a1 < 40) ∧ (C_X11_isHint s (s.1 184 a1) (s.1 185 a1) (s.1 186 a1) (fun s2 v2 => (v2 = 0 ∨ v2 = 1) → (R32 (1 - s2.1 139 28) ∧ (C_X11_copyBank (ui s2 139 28 (1 - s2.1 139 28)) 2 (1 - s2.1 139 28) (fun s4 => (C_X11_begin s4 (fun s5 => (((0 : Int) ≤ s5.1 139 28 ∧ s5.1 139 28 < 6) ∧ Q s5 (s5.1 142 (s5.1 139 28)))))))))))) : K_X11_apply_54 s a1 Q := by
  refine ⟨?_, trivial⟩
  intro hA hra1
  have h := h hA hra1
  refine q_aload_n eX11_apply_54 rfl ?_
  refine q_aload_n eX11_apply_55 rfl ?_
  refine q_getR (c := 11) (n := 0) (k := 66) (a := 184) eX11_apply_56 rfl (by decide) (by decide) fX11_152 rfl rfl ?_
  refine q_iload_n eX11_apply_59 rfl ?_
  have f1 := h.1
  have h := h.2
  refine z_iald (n := 40) eX11_apply_60 rfl (ofz hra1) f1 ?_
  refine q_topI (v := Int32.ofInt (s.1 184 a1)) rfl ?_
  refine q_aload_n eX11_apply_61 rfl ?_
  refine q_getR (c := 11) (n := 0) (k := 67) (a := 185) eX11_apply_62 rfl (by decide) (by decide) fX11_155 rfl rfl ?_
  refine q_iload_n eX11_apply_65 rfl ?_
  refine z_iald (n := 40) eX11_apply_66 rfl (ofz hra1) f1 ?_
  refine q_topI (v := Int32.ofInt (s.1 185 a1)) rfl ?_
  refine q_aload_n eX11_apply_67 rfl ?_
  refine q_getR (c := 11) (n := 0) (k := 68) (a := 186) eX11_apply_68 rfl (by decide) (by decide) fX11_158 rfl rfl ?_
  refine q_iload_n eX11_apply_71 rfl ?_
  refine z_iald (n := 40) eX11_apply_72 rfl (ofz hra1) f1 ?_
  refine q_topI (v := Int32.ofInt (s.1 186 a1)) rfl ?_
  refine q_V3 (ci := 11) (n := 0) eX11_apply_73 DX11_isHint lX11_545 rfl (by decide) rfl rfl rfl rfl (h.1 hA (hA _ _) (hA _ _) (hA _ _)) ?_
  rintro _ _ ⟨s2, v2, rfl, hA2, b2, rfl, h⟩
  have h := h b2
  refine q_pop eX11_apply_76 rfl ?_
  refine q_aload_n eX11_apply_77 rfl ?_
  refine q_ic (v := Int32.ofInt 1) eX11_apply_78 rfl ?_
  refine q_aload_n eX11_apply_79 rfl ?_
  refine q_getf (c := 11) (n := 0) (k := 28) (v := .int (Int32.ofInt (s2.1 139 28))) eX11_apply_80 rfl (by decide) (by decide) fX11_321 rfl ?_
  refine z_isub eX11_apply_83 ?_
  have r3 := h.1
  have h := h.2
  refine z_putI (c := 11) (n := 0) (k := 28) (kz := 28) eX11_apply_84 rfl (by decide) (by decide) fX11_321 rfl rfl rfl ?_
  refine q_aload_n eX11_apply_87 rfl ?_
  refine q_ic (v := Int32.ofInt 2) eX11_apply_88 rfl ?_
  refine q_aload_n eX11_apply_89 rfl ?_
  refine q_getf (c := 11) (n := 0) (k := 28) (v := .int (Int32.ofInt (1 - s2.1 139 28))) eX11_apply_90 rfl (by decide) (by decide) fX11_321 rfl ?_
  refine q_V2 (ci := 11) (n := 0) eX11_apply_93 DX11_copyBank lX11_566 rfl (by decide) rfl rfl rfl rfl (h.1 (ra_ui hA2 r3) (r32l rfl) r3) ?_
  rintro _ _ ⟨s4, rfl, hA4, rfl, h⟩
  refine q_aload_n eX11_apply_96 rfl ?_
  refine q_V0 (ci := 11) (n := 0) eX11_apply_97 DX11_begin lX11_216 rfl (by decide) rfl rfl rfl rfl (h.1 hA4) ?_
  rintro _ _ ⟨s5, rfl, hA5, rfl, h⟩
  refine q_aload_n eX11_apply_100 rfl ?_
  refine q_getR (c := 11) (n := 0) (k := 11) (a := 142) eX11_apply_101 rfl (by decide) (by decide) fX11_20 rfl rfl ?_
  refine q_aload_n eX11_apply_104 rfl ?_
  refine q_getf (c := 11) (n := 0) (k := 28) (v := .int (Int32.ofInt (s5.1 139 28))) eX11_apply_105 rfl (by decide) (by decide) fX11_321 rfl ?_
  have f6 := h.1
  have h := h.2
  refine z_iald (n := 6) eX11_apply_108 rfl (ofz (hA5 _ _)) f6 ?_
  refine q_topI (v := Int32.ofInt (s5.1 142 (s5.1 139 28))) rfl ?_
  exact q_iret eX11_apply_109 rfl ⟨_, _, rfl, hA5, (hA5 _ _), rfl, h⟩
set_option maxRecDepth 20000 in
theorem s_X11_apply {s : ST} {p : Int} {Q : ST → Int → Prop} (h : RA s → R32 p → (((0 : Int) ≤ s.1 139 28 ∧ s.1 139 28 < 6) ∧ ((24 < s.1 142 (s.1 139 28) → Q s (-1)) ∧ (¬ 24 < s.1 142 (s.1 139 28) → ((0 ≤ p → (C_X11_findHints s (fun s2 => ((p < s2.1 139 70 → (((0 : Int) ≤ p ∧ p < 40) ∧ ((¬ s2.1 185 p = 1 → K_X11_apply_54 s2 p Q) ∧ (s2.1 185 p = 1 → (C_X11_layMeant s2 (s2.1 184 p) (fun s4 => K_X11_apply_54 s4 p Q)))))) ∧ (¬ p < s2.1 139 70 → Q s2 (-1)))))) ∧ (¬ 0 ≤ p → Q s (-1))))))) : C_X11_apply s p Q := by
  refine ⟨?_, trivial⟩
  intro hA hrp
  have h := h hA hrp
  refine q_enter (by decide) (Nat.le_of_ble_eq_true rfl) ?_
  refine q_aload_n eX11_apply_0 rfl ?_
  refine q_getR (c := 11) (n := 0) (k := 11) (a := 142) eX11_apply_1 rfl (by decide) (by decide) fX11_20 rfl rfl ?_
  refine q_aload_n eX11_apply_4 rfl ?_
  refine q_getf (c := 11) (n := 0) (k := 28) (v := .int (Int32.ofInt (s.1 139 28))) eX11_apply_5 rfl (by decide) (by decide) fX11_321 rfl ?_
  have f1 := h.1
  have h := h.2
  refine z_iald (n := 6) eX11_apply_8 rfl (ofz (hA _ _)) f1 ?_
  refine q_topI (v := Int32.ofInt (s.1 142 (s.1 139 28))) rfl ?_
  refine q_bi (v := Int32.ofInt 24) eX11_apply_9 rfl ?_
  refine q_cz_gt (tgt := 18) (a := s.1 142 (s.1 139 28)) (b := 24) eX11_apply_11 (by decide) (ofz (hA _ _)) (ofz (r32l rfl)) (fun c11 => ?_) (fun c11 => ?_)
  · have h := h.1 c11
    refine q_ic (v := Int32.ofInt (-1)) eX11_apply_18 rfl ?_
    exact q_iret eX11_apply_19 rfl ⟨_, _, rfl, hA, (r32l rfl), rfl, h⟩
  · have h := h.2 c11
    refine q_iload_n eX11_apply_14 rfl ?_
    refine q_iz_ge (tgt := 20) (a := p) eX11_apply_15 (by decide) (ofz hrp) (fun c15 => ?_) (fun c15 => ?_)
    · have h := h.1 c15
      refine q_aload_n eX11_apply_20 rfl ?_
      refine q_V0 (ci := 11) (n := 0) eX11_apply_21 DX11_findHints lX11_557 rfl (by decide) rfl rfl rfl rfl (h.1 hA) ?_
      rintro _ _ ⟨s2, rfl, hA2, rfl, h⟩
      refine q_iload_n eX11_apply_24 rfl ?_
      refine q_aload_n eX11_apply_25 rfl ?_
      refine q_getf (c := 11) (n := 0) (k := 70) (v := .int (Int32.ofInt (s2.1 139 70))) eX11_apply_26 rfl (by decide) (by decide) fX11_542 rfl ?_
      refine q_cz_lt (tgt := 34) (a := p) (b := s2.1 139 70) eX11_apply_29 (by decide) (ofz hrp) (ofz (hA2 _ _)) (fun c29 => ?_) (fun c29 => ?_)
      · have h := h.1 c29
        refine q_aload_n eX11_apply_34 rfl ?_
        refine q_getR (c := 11) (n := 0) (k := 67) (a := 185) eX11_apply_35 rfl (by decide) (by decide) fX11_155 rfl rfl ?_
        refine q_iload_n eX11_apply_38 rfl ?_
        have f3 := h.1
        have h := h.2
        refine z_iald (n := 40) eX11_apply_39 rfl (ofz hrp) f3 ?_
        refine q_topI (v := Int32.ofInt (s2.1 185 p)) rfl ?_
        refine q_ic (v := Int32.ofInt 1) eX11_apply_40 rfl ?_
        refine q_cz_ne (tgt := 54) (a := s2.1 185 p) (b := 1) eX11_apply_41 (by decide) (ofz (hA2 _ _)) (ofz (r32l rfl)) (fun c41 => ?_) (fun c41 => ?_)
        · have h := h.1 c41
          exact q_subL rfl (h.1 hA2 hrp)
        · have h := h.2 c41
          refine q_aload_n eX11_apply_44 rfl ?_
          refine q_aload_n eX11_apply_45 rfl ?_
          refine q_getR (c := 11) (n := 0) (k := 66) (a := 184) eX11_apply_46 rfl (by decide) (by decide) fX11_152 rfl rfl ?_
          refine q_iload_n eX11_apply_49 rfl ?_
          refine z_iald (n := 40) eX11_apply_50 rfl (ofz hrp) f3 ?_
          refine q_topI (v := Int32.ofInt (s2.1 184 p)) rfl ?_
          refine q_V1 (ci := 11) (n := 0) eX11_apply_51 DX11_layMeant lX11_554 rfl (by decide) rfl rfl rfl rfl (h.1 hA2 (hA2 _ _)) ?_
          rintro _ _ ⟨s4, rfl, hA4, rfl, h⟩
          exact q_subL rfl (h.1 hA4 hrp)
      · have h := h.2 c29
        refine q_ic (v := Int32.ofInt (-1)) eX11_apply_32 rfl ?_
        exact q_iret eX11_apply_33 rfl ⟨_, _, rfl, hA2, (r32l rfl), rfl, h⟩
    · have h := h.2 c15
      refine q_ic (v := Int32.ofInt (-1)) eX11_apply_18 rfl ?_
      exact q_iret eX11_apply_19 rfl ⟨_, _, rfl, hA, (r32l rfl), rfl, h⟩
theorem eX11_valueOf_0 : decode cX11_valueOf 0 = .ok (.aload_n 0, 1) := by decide +kernel
theorem eX11_valueOf_1 : decode cX11_valueOf 1 = .ok (.getfield 176, 3) := by decide +kernel
theorem eX11_valueOf_4 : decode cX11_valueOf 4 = .ok (.aload_n 0, 1) := by decide +kernel
theorem eX11_valueOf_5 : decode cX11_valueOf 5 = .ok (.getfield 569, 3) := by decide +kernel
theorem eX11_valueOf_8 : decode cX11_valueOf 8 = .ok (.iload_n 1, 1) := by decide +kernel
theorem eX11_valueOf_9 : decode cX11_valueOf 9 = .ok (.iastore, 1) := by decide +kernel
theorem eX11_valueOf_10 : decode cX11_valueOf 10 = .ok (.aload_n 0, 1) := by decide +kernel
theorem eX11_valueOf_11 : decode cX11_valueOf 11 = .ok (.getfield 179, 3) := by decide +kernel
theorem eX11_valueOf_14 : decode cX11_valueOf 14 = .ok (.aload_n 0, 1) := by decide +kernel
theorem eX11_valueOf_15 : decode cX11_valueOf 15 = .ok (.getfield 569, 3) := by decide +kernel
theorem eX11_valueOf_18 : decode cX11_valueOf 18 = .ok (.iload_n 2, 1) := by decide +kernel
theorem eX11_valueOf_19 : decode cX11_valueOf 19 = .ok (.iastore, 1) := by decide +kernel
theorem eX11_valueOf_20 : decode cX11_valueOf 20 = .ok (.aload_n 0, 1) := by decide +kernel
theorem eX11_valueOf_21 : decode cX11_valueOf 21 = .ok (.getfield 182, 3) := by decide +kernel
theorem eX11_valueOf_24 : decode cX11_valueOf 24 = .ok (.aload_n 0, 1) := by decide +kernel
theorem eX11_valueOf_25 : decode cX11_valueOf 25 = .ok (.getfield 569, 3) := by decide +kernel
theorem eX11_valueOf_28 : decode cX11_valueOf 28 = .ok (.iload_n 3, 1) := by decide +kernel
theorem eX11_valueOf_29 : decode cX11_valueOf 29 = .ok (.iastore, 1) := by decide +kernel
theorem eX11_valueOf_30 : decode cX11_valueOf 30 = .ok (.aload_n 0, 1) := by decide +kernel
theorem eX11_valueOf_31 : decode cX11_valueOf 31 = .ok (.getfield 185, 3) := by decide +kernel
theorem eX11_valueOf_34 : decode cX11_valueOf 34 = .ok (.aload_n 0, 1) := by decide +kernel
theorem eX11_valueOf_35 : decode cX11_valueOf 35 = .ok (.getfield 569, 3) := by decide +kernel
theorem eX11_valueOf_38 : decode cX11_valueOf 38 = .ok (.iload 4, 2) := by decide +kernel
theorem eX11_valueOf_40 : decode cX11_valueOf 40 = .ok (.iastore, 1) := by decide +kernel
theorem eX11_valueOf_41 : decode cX11_valueOf 41 = .ok (.aload_n 0, 1) := by decide +kernel
theorem eX11_valueOf_42 : decode cX11_valueOf 42 = .ok (.dup, 1) := by decide +kernel
theorem eX11_valueOf_43 : decode cX11_valueOf 43 = .ok (.getfield 569, 3) := by decide +kernel
theorem eX11_valueOf_46 : decode cX11_valueOf 46 = .ok (.iconst 1, 1) := by decide +kernel
theorem eX11_valueOf_47 : decode cX11_valueOf 47 = .ok (.iadd, 1) := by decide +kernel
theorem eX11_valueOf_48 : decode cX11_valueOf 48 = .ok (.putfield 569, 3) := by decide +kernel
theorem eX11_valueOf_51 : decode cX11_valueOf 51 = .ok (.aload_n 0, 1) := by decide +kernel
theorem eX11_valueOf_52 : decode cX11_valueOf 52 = .ok (.getfield 569, 3) := by decide +kernel
theorem eX11_valueOf_55 : decode cX11_valueOf 55 = .ok (.iconst 1, 1) := by decide +kernel
theorem eX11_valueOf_56 : decode cX11_valueOf 56 = .ok (.isub, 1) := by decide +kernel
theorem eX11_valueOf_57 : decode cX11_valueOf 57 = .ok (.ireturn, 1) := by decide +kernel
def C_X11_valueOf (s : ST) (p : Int) (q : Int) (u : Int) (w : Int) (Q : ST → Int → Prop) : Prop := bx <| RA s → R32 p → R32 q → R32 u → R32 w → q_met mX11_valueOf (qs layM s) [.ref 139, .int (Int32.ofInt p), .int (Int32.ofInt q), .int (Int32.ofInt u), .int (Int32.ofInt w)] (PI layM Q)
theorem C_X11_valueOf.mono {s : ST} {p : Int} {q : Int} {u : Int} {w : Int} {Q Q' : ST → Int → Prop} (h : C_X11_valueOf s p q u w Q) (hq : ∀ s v, Q s v → Q' s v) : C_X11_valueOf s p q u w Q' := ⟨fun hA hrp hrq hru hrw => q_met.mono (h.1 hA hrp hrq hru hrw) (fun _ _ => PI.mono hq), trivial⟩
set_option maxRecDepth 20000 in
theorem s_X11_valueOf {s : ST} {p : Int} {q : Int} {u : Int} {w : Int} {Q : ST → Int → Prop} (h : RA s → R32 p → R32 q → R32 u → R32 w → (((0 : Int) ≤ s.1 139 85 ∧ s.1 139 85 < 4100) ∧ (R32 (s.1 139 85 + 1) ∧ (R32 ((s.1 139 85 + 1) - 1) ∧ Q (ui (ui (ui (ui (ui s 192 (s.1 139 85) p) 193 (s.1 139 85) q) 194 (s.1 139 85) u) 195 (s.1 139 85) w) 139 85 (s.1 139 85 + 1)) ((s.1 139 85 + 1) - 1))))) : C_X11_valueOf s p q u w Q := by
  refine ⟨?_, trivial⟩
  intro hA hrp hrq hru hrw
  have h := h hA hrp hrq hru hrw
  refine q_enter (by decide) (Nat.le_of_ble_eq_true rfl) ?_
  refine q_aload_n eX11_valueOf_0 rfl ?_
  refine q_getR (c := 11) (n := 0) (k := 76) (a := 192) eX11_valueOf_1 rfl (by decide) (by decide) fX11_176 rfl rfl ?_
  refine q_aload_n eX11_valueOf_4 rfl ?_
  refine q_getf (c := 11) (n := 0) (k := 85) (v := .int (Int32.ofInt (s.1 139 85))) eX11_valueOf_5 rfl (by decide) (by decide) fX11_569 rfl ?_
  refine q_iload_n eX11_valueOf_8 rfl ?_
  have f1 := h.1
  have h := h.2
  refine z_iast (n := 4100) eX11_valueOf_9 rfl (ofz (hA _ _)) f1  ?_
  refine q_aload_n eX11_valueOf_10 rfl ?_
  refine q_getR (c := 11) (n := 0) (k := 77) (a := 193) eX11_valueOf_11 rfl (by decide) (by decide) fX11_179 rfl rfl ?_
  refine q_aload_n eX11_valueOf_14 rfl ?_
  refine q_getf (c := 11) (n := 0) (k := 85) (v := .int (Int32.ofInt (s.1 139 85))) eX11_valueOf_15 rfl (by decide) (by decide) fX11_569 rfl ?_
  refine q_iload_n eX11_valueOf_18 rfl ?_
  refine z_iast (n := 4100) eX11_valueOf_19 rfl (ofz (hA _ _)) f1  ?_
  refine q_aload_n eX11_valueOf_20 rfl ?_
  refine q_getR (c := 11) (n := 0) (k := 78) (a := 194) eX11_valueOf_21 rfl (by decide) (by decide) fX11_182 rfl rfl ?_
  refine q_aload_n eX11_valueOf_24 rfl ?_
  refine q_getf (c := 11) (n := 0) (k := 85) (v := .int (Int32.ofInt (s.1 139 85))) eX11_valueOf_25 rfl (by decide) (by decide) fX11_569 rfl ?_
  refine q_iload_n eX11_valueOf_28 rfl ?_
  refine z_iast (n := 4100) eX11_valueOf_29 rfl (ofz (hA _ _)) f1  ?_
  refine q_aload_n eX11_valueOf_30 rfl ?_
  refine q_getR (c := 11) (n := 0) (k := 79) (a := 195) eX11_valueOf_31 rfl (by decide) (by decide) fX11_185 rfl rfl ?_
  refine q_aload_n eX11_valueOf_34 rfl ?_
  refine q_getf (c := 11) (n := 0) (k := 85) (v := .int (Int32.ofInt (s.1 139 85))) eX11_valueOf_35 rfl (by decide) (by decide) fX11_569 rfl ?_
  refine q_iload eX11_valueOf_38 rfl ?_
  refine z_iast (n := 4100) eX11_valueOf_40 rfl (ofz (hA _ _)) f1  ?_
  refine q_aload_n eX11_valueOf_41 rfl ?_
  refine q_dup eX11_valueOf_42 rfl ?_
  refine q_getf (c := 11) (n := 0) (k := 85) (v := .int (Int32.ofInt (s.1 139 85))) eX11_valueOf_43 rfl (by decide) (by decide) fX11_569 rfl ?_
  refine q_ic (v := Int32.ofInt 1) eX11_valueOf_46 rfl ?_
  refine z_iadd eX11_valueOf_47 ?_
  have r2 := h.1
  have h := h.2
  refine z_putI (c := 11) (n := 0) (k := 85) (kz := 85) eX11_valueOf_48 rfl (by decide) (by decide) fX11_569 rfl rfl rfl ?_
  refine q_aload_n eX11_valueOf_51 rfl ?_
  refine q_getf (c := 11) (n := 0) (k := 85) (v := .int (Int32.ofInt (s.1 139 85 + 1))) eX11_valueOf_52 rfl (by decide) (by decide) fX11_569 rfl ?_
  refine q_ic (v := Int32.ofInt 1) eX11_valueOf_55 rfl ?_
  refine z_isub eX11_valueOf_56 ?_
  have r3 := h.1
  have h := h.2
  exact q_iret eX11_valueOf_57 rfl ⟨_, _, rfl, (ra_ui (ra_ui (ra_ui (ra_ui (ra_ui hA hrp) hrq) hru) hrw) r2), r3, rfl, h⟩
theorem eX11_works_0 : decode cX11_works 0 = .ok (.aload_n 0, 1) := by decide +kernel
theorem eX11_works_1 : decode cX11_works 1 = .ok (.getfield 572, 3) := by decide +kernel
theorem eX11_works_4 : decode cX11_works 4 = .ok (.sipush 4000, 3) := by decide +kernel
theorem eX11_works_7 : decode cX11_works 7 = .ok (.if_icmp .eq 13, 3) := by decide +kernel
theorem eX11_works_10 : decode cX11_works 10 = .ok (.aload_n 0, 1) := by decide +kernel
theorem eX11_works_11 : decode cX11_works 11 = .ok (.getfield 575, 3) := by decide +kernel
theorem eX11_works_14 : decode cX11_works 14 = .ok (.sipush 150, 3) := by decide +kernel
theorem eX11_works_17 : decode cX11_works 17 = .ok (.if_icmp .le 10, 3) := by decide +kernel
theorem eX11_works_20 : decode cX11_works 20 = .ok (.aload_n 0, 1) := by decide +kernel
theorem eX11_works_21 : decode cX11_works 21 = .ok (.bipush (-4), 2) := by decide +kernel
theorem eX11_works_23 : decode cX11_works 23 = .ok (.putfield 578, 3) := by decide +kernel
theorem eX11_works_26 : decode cX11_works 26 = .ok (.return_, 1) := by decide +kernel
theorem eX11_works_27 : decode cX11_works 27 = .ok (.aload_n 0, 1) := by decide +kernel
theorem eX11_works_28 : decode cX11_works 28 = .ok (.dup, 1) := by decide +kernel
theorem eX11_works_29 : decode cX11_works 29 = .ok (.getfield 572, 3) := by decide +kernel
theorem eX11_works_32 : decode cX11_works 32 = .ok (.iconst 1, 1) := by decide +kernel
theorem eX11_works_33 : decode cX11_works 33 = .ok (.iadd, 1) := by decide +kernel
theorem eX11_works_34 : decode cX11_works 34 = .ok (.putfield 572, 3) := by decide +kernel
theorem eX11_works_37 : decode cX11_works 37 = .ok (.aload_n 0, 1) := by decide +kernel
theorem eX11_works_38 : decode cX11_works 38 = .ok (.getfield 164, 3) := by decide +kernel
theorem eX11_works_41 : decode cX11_works 41 = .ok (.aload_n 0, 1) := by decide +kernel
theorem eX11_works_42 : decode cX11_works 42 = .ok (.getfield 575, 3) := by decide +kernel
theorem eX11_works_45 : decode cX11_works 45 = .ok (.iload_n 1, 1) := by decide +kernel
theorem eX11_works_46 : decode cX11_works 46 = .ok (.iastore, 1) := by decide +kernel
theorem eX11_works_47 : decode cX11_works 47 = .ok (.aload_n 0, 1) := by decide +kernel
theorem eX11_works_48 : decode cX11_works 48 = .ok (.getfield 167, 3) := by decide +kernel
theorem eX11_works_51 : decode cX11_works 51 = .ok (.aload_n 0, 1) := by decide +kernel
theorem eX11_works_52 : decode cX11_works 52 = .ok (.getfield 575, 3) := by decide +kernel
theorem eX11_works_55 : decode cX11_works 55 = .ok (.iconst 0, 1) := by decide +kernel
theorem eX11_works_56 : decode cX11_works 56 = .ok (.iastore, 1) := by decide +kernel
theorem eX11_works_57 : decode cX11_works 57 = .ok (.aload_n 0, 1) := by decide +kernel
theorem eX11_works_58 : decode cX11_works 58 = .ok (.getfield 170, 3) := by decide +kernel
theorem eX11_works_61 : decode cX11_works 61 = .ok (.aload_n 0, 1) := by decide +kernel
theorem eX11_works_62 : decode cX11_works 62 = .ok (.getfield 575, 3) := by decide +kernel
theorem eX11_works_65 : decode cX11_works 65 = .ok (.iload_n 2, 1) := by decide +kernel
theorem eX11_works_66 : decode cX11_works 66 = .ok (.iastore, 1) := by decide +kernel
theorem eX11_works_67 : decode cX11_works 67 = .ok (.aload_n 0, 1) := by decide +kernel
theorem eX11_works_68 : decode cX11_works 68 = .ok (.dup, 1) := by decide +kernel
theorem eX11_works_69 : decode cX11_works 69 = .ok (.getfield 575, 3) := by decide +kernel
theorem eX11_works_72 : decode cX11_works 72 = .ok (.iconst 1, 1) := by decide +kernel
theorem eX11_works_73 : decode cX11_works 73 = .ok (.iadd, 1) := by decide +kernel
theorem eX11_works_74 : decode cX11_works 74 = .ok (.putfield 575, 3) := by decide +kernel
theorem eX11_works_77 : decode cX11_works 77 = .ok (.return_, 1) := by decide +kernel
def C_X11_works (s : ST) (p : Int) (q : Int) (Q : ST → Prop) : Prop := bx <| RA s → R32 p → R32 q → q_met mX11_works (qs layM s) [.ref 139, .int (Int32.ofInt p), .int (Int32.ofInt q)] (PV layM Q)
theorem C_X11_works.mono {s : ST} {p : Int} {q : Int} {Q Q' : ST → Prop} (h : C_X11_works s p q Q) (hq : ∀ s, Q s → Q' s) : C_X11_works s p q Q' := ⟨fun hA hrp hrq => q_met.mono (h.1 hA hrp hrq) (fun _ _ => PV.mono hq), trivial⟩
set_option maxRecDepth 20000 in
theorem s_X11_works {s : ST} {p : Int} {q : Int} {Q : ST → Prop} (h : RA s → R32 p → R32 q → ((s.1 139 84 = 4000 → Q (ui s 139 88 (-4))) ∧ (¬ s.1 139 84 = 4000 → ((s.1 139 83 ≤ 150 → (R32 (s.1 139 84 + 1) ∧ (((0 : Int) ≤ s.1 139 83 ∧ s.1 139 83 < 152) ∧ (R32 (s.1 139 83 + 1) ∧ Q (ui (ui (ui (ui (ui s 139 84 (s.1 139 84 + 1)) 188 (s.1 139 83) p) 189 (s.1 139 83) 0) 190 (s.1 139 83) q) 139 83 (s.1 139 83 + 1)))))) ∧ (¬ s.1 139 83 ≤ 150 → Q (ui s 139 88 (-4))))))) : C_X11_works s p q Q := by
  refine ⟨?_, trivial⟩
  intro hA hrp hrq
  have h := h hA hrp hrq
  refine q_enter (by decide) (Nat.le_of_ble_eq_true rfl) ?_
  refine q_aload_n eX11_works_0 rfl ?_
  refine q_getf (c := 11) (n := 0) (k := 84) (v := .int (Int32.ofInt (s.1 139 84))) eX11_works_1 rfl (by decide) (by decide) fX11_572 rfl ?_
  refine q_si (v := Int32.ofInt 4000) eX11_works_4 rfl ?_
  refine q_cz_eq (tgt := 20) (a := s.1 139 84) (b := 4000) eX11_works_7 (by decide) (ofz (hA _ _)) (ofz (r32l rfl)) (fun c7 => ?_) (fun c7 => ?_)
  · have h := h.1 c7
    refine q_aload_n eX11_works_20 rfl ?_
    refine q_bi (v := Int32.ofInt (-4)) eX11_works_21 rfl ?_
    refine z_putI (c := 11) (n := 0) (k := 88) (kz := 88) eX11_works_23 rfl (by decide) (by decide) fX11_578 rfl rfl rfl ?_
    exact q_ret eX11_works_26 rfl ⟨_, rfl, (ra_ui hA (r32l rfl)), rfl, h⟩
  · have h := h.2 c7
    refine q_aload_n eX11_works_10 rfl ?_
    refine q_getf (c := 11) (n := 0) (k := 83) (v := .int (Int32.ofInt (s.1 139 83))) eX11_works_11 rfl (by decide) (by decide) fX11_575 rfl ?_
    refine q_si (v := Int32.ofInt 150) eX11_works_14 rfl ?_
    refine q_cz_le (tgt := 27) (a := s.1 139 83) (b := 150) eX11_works_17 (by decide) (ofz (hA _ _)) (ofz (r32l rfl)) (fun c17 => ?_) (fun c17 => ?_)
    · have h := h.1 c17
      refine q_aload_n eX11_works_27 rfl ?_
      refine q_dup eX11_works_28 rfl ?_
      refine q_getf (c := 11) (n := 0) (k := 84) (v := .int (Int32.ofInt (s.1 139 84))) eX11_works_29 rfl (by decide) (by decide) fX11_572 rfl ?_
      refine q_ic (v := Int32.ofInt 1) eX11_works_32 rfl ?_
      refine z_iadd eX11_works_33 ?_
      have r1 := h.1
      have h := h.2
      refine z_putI (c := 11) (n := 0) (k := 84) (kz := 84) eX11_works_34 rfl (by decide) (by decide) fX11_572 rfl rfl rfl ?_
      refine q_aload_n eX11_works_37 rfl ?_
      refine q_getR (c := 11) (n := 0) (k := 72) (a := 188) eX11_works_38 rfl (by decide) (by decide) fX11_164 rfl rfl ?_
      refine q_aload_n eX11_works_41 rfl ?_
      refine q_getf (c := 11) (n := 0) (k := 83) (v := .int (Int32.ofInt (s.1 139 83))) eX11_works_42 rfl (by decide) (by decide) fX11_575 rfl ?_
      refine q_iload_n eX11_works_45 rfl ?_
      have f2 := h.1
      have h := h.2
      refine z_iast (n := 152) eX11_works_46 rfl (ofz (hA _ _)) f2  ?_
      refine q_aload_n eX11_works_47 rfl ?_
      refine q_getR (c := 11) (n := 0) (k := 73) (a := 189) eX11_works_48 rfl (by decide) (by decide) fX11_167 rfl rfl ?_
      refine q_aload_n eX11_works_51 rfl ?_
      refine q_getf (c := 11) (n := 0) (k := 83) (v := .int (Int32.ofInt (s.1 139 83))) eX11_works_52 rfl (by decide) (by decide) fX11_575 rfl ?_
      refine q_ic (v := Int32.ofInt 0) eX11_works_55 rfl ?_
      refine z_iast (n := 152) eX11_works_56 rfl (ofz (hA _ _)) f2  ?_
      refine q_aload_n eX11_works_57 rfl ?_
      refine q_getR (c := 11) (n := 0) (k := 74) (a := 190) eX11_works_58 rfl (by decide) (by decide) fX11_170 rfl rfl ?_
      refine q_aload_n eX11_works_61 rfl ?_
      refine q_getf (c := 11) (n := 0) (k := 83) (v := .int (Int32.ofInt (s.1 139 83))) eX11_works_62 rfl (by decide) (by decide) fX11_575 rfl ?_
      refine q_iload_n eX11_works_65 rfl ?_
      refine z_iast (n := 152) eX11_works_66 rfl (ofz (hA _ _)) f2  ?_
      refine q_aload_n eX11_works_67 rfl ?_
      refine q_dup eX11_works_68 rfl ?_
      refine q_getf (c := 11) (n := 0) (k := 83) (v := .int (Int32.ofInt (s.1 139 83))) eX11_works_69 rfl (by decide) (by decide) fX11_575 rfl ?_
      refine q_ic (v := Int32.ofInt 1) eX11_works_72 rfl ?_
      refine z_iadd eX11_works_73 ?_
      have r3 := h.1
      have h := h.2
      refine z_putI (c := 11) (n := 0) (k := 83) (kz := 83) eX11_works_74 rfl (by decide) (by decide) fX11_575 rfl rfl rfl ?_
      exact q_ret eX11_works_77 rfl ⟨_, rfl, (ra_ui (ra_ui (ra_ui (ra_ui (ra_ui hA r1) hrp) (r32l rfl)) hrq) r3), rfl, h⟩
    · have h := h.2 c17
      refine q_aload_n eX11_works_20 rfl ?_
      refine q_bi (v := Int32.ofInt (-4)) eX11_works_21 rfl ?_
      refine z_putI (c := 11) (n := 0) (k := 88) (kz := 88) eX11_works_23 rfl (by decide) (by decide) fX11_578 rfl rfl rfl ?_
      exact q_ret eX11_works_26 rfl ⟨_, rfl, (ra_ui hA (r32l rfl)), rfl, h⟩
theorem eX11_gives_0 : decode cX11_gives 0 = .ok (.aload_n 0, 1) := by decide +kernel
theorem eX11_gives_1 : decode cX11_gives 1 = .ok (.iload_n 1, 1) := by decide +kernel
theorem eX11_gives_2 : decode cX11_gives 2 = .ok (.putfield 603, 3) := by decide +kernel
theorem eX11_gives_5 : decode cX11_gives 5 = .ok (.aload_n 0, 1) := by decide +kernel
theorem eX11_gives_6 : decode cX11_gives 6 = .ok (.dup, 1) := by decide +kernel
theorem eX11_gives_7 : decode cX11_gives 7 = .ok (.getfield 575, 3) := by decide +kernel
theorem eX11_gives_10 : decode cX11_gives 10 = .ok (.iconst 1, 1) := by decide +kernel
theorem eX11_gives_11 : decode cX11_gives 11 = .ok (.isub, 1) := by decide +kernel
theorem eX11_gives_12 : decode cX11_gives 12 = .ok (.putfield 575, 3) := by decide +kernel
theorem eX11_gives_15 : decode cX11_gives 15 = .ok (.return_, 1) := by decide +kernel
def C_X11_gives (s : ST) (p : Int) (Q : ST → Prop) : Prop := bx <| RA s → R32 p → q_met mX11_gives (qs layM s) [.ref 139, .int (Int32.ofInt p)] (PV layM Q)
theorem C_X11_gives.mono {s : ST} {p : Int} {Q Q' : ST → Prop} (h : C_X11_gives s p Q) (hq : ∀ s, Q s → Q' s) : C_X11_gives s p Q' := ⟨fun hA hrp => q_met.mono (h.1 hA hrp) (fun _ _ => PV.mono hq), trivial⟩
set_option maxRecDepth 20000 in
theorem s_X11_gives {s : ST} {p : Int} {Q : ST → Prop} (h : RA s → R32 p → (R32 (s.1 139 83 - 1) ∧ Q (ui (ui s 139 87 p) 139 83 (s.1 139 83 - 1)))) : C_X11_gives s p Q := by
  refine ⟨?_, trivial⟩
  intro hA hrp
  have h := h hA hrp
  refine q_enter (by decide) (Nat.le_of_ble_eq_true rfl) ?_
  refine q_aload_n eX11_gives_0 rfl ?_
  refine q_iload_n eX11_gives_1 rfl ?_
  refine z_putI (c := 11) (n := 0) (k := 87) (kz := 87) eX11_gives_2 rfl (by decide) (by decide) fX11_603 rfl rfl rfl ?_
  refine q_aload_n eX11_gives_5 rfl ?_
  refine q_dup eX11_gives_6 rfl ?_
  refine q_getf (c := 11) (n := 0) (k := 83) (v := .int (Int32.ofInt (s.1 139 83))) eX11_gives_7 rfl (by decide) (by decide) fX11_575 rfl ?_
  refine q_ic (v := Int32.ofInt 1) eX11_gives_10 rfl ?_
  refine z_isub eX11_gives_11 ?_
  have r1 := h.1
  have h := h.2
  refine z_putI (c := 11) (n := 0) (k := 83) (kz := 83) eX11_gives_12 rfl (by decide) (by decide) fX11_575 rfl rfl rfl ?_
  exact q_ret eX11_gives_15 rfl ⟨_, rfl, (ra_ui (ra_ui hA hrp) r1), rfl, h⟩
theorem eX11_stepLeaf_0 : decode cX11_stepLeaf 0 = .ok (.iload_n 3, 1) := by decide +kernel
theorem eX11_stepLeaf_1 : decode cX11_stepLeaf 1 = .ok (.ifCond .eq 8, 3) := by decide +kernel
theorem eX11_stepLeaf_4 : decode cX11_stepLeaf 4 = .ok (.iload_n 3, 1) := by decide +kernel
theorem eX11_stepLeaf_5 : decode cX11_stepLeaf 5 = .ok (.iconst 1, 1) := by decide +kernel
theorem eX11_stepLeaf_6 : decode cX11_stepLeaf 6 = .ok (.if_icmp .ne 31, 3) := by decide +kernel
theorem eX11_stepLeaf_9 : decode cX11_stepLeaf 9 = .ok (.aload_n 0, 1) := by decide +kernel
theorem eX11_stepLeaf_10 : decode cX11_stepLeaf 10 = .ok (.aload_n 0, 1) := by decide +kernel
theorem eX11_stepLeaf_11 : decode cX11_stepLeaf 11 = .ok (.iload_n 3, 1) := by decide +kernel
theorem eX11_stepLeaf_12 : decode cX11_stepLeaf 12 = .ok (.ifCond .ne 7, 3) := by decide +kernel
theorem eX11_stepLeaf_15 : decode cX11_stepLeaf 15 = .ok (.iconst 0, 1) := by decide +kernel
theorem eX11_stepLeaf_16 : decode cX11_stepLeaf 16 = .ok (.goto 4, 3) := by decide +kernel
theorem eX11_stepLeaf_19 : decode cX11_stepLeaf 19 = .ok (.iconst 1, 1) := by decide +kernel
theorem eX11_stepLeaf_20 : decode cX11_stepLeaf 20 = .ok (.aload_n 0, 1) := by decide +kernel
theorem eX11_stepLeaf_21 : decode cX11_stepLeaf 21 = .ok (.getfield 36, 3) := by decide +kernel
theorem eX11_stepLeaf_24 : decode cX11_stepLeaf 24 = .ok (.iload_n 2, 1) := by decide +kernel
theorem eX11_stepLeaf_25 : decode cX11_stepLeaf 25 = .ok (.iaload, 1) := by decide +kernel
theorem eX11_stepLeaf_26 : decode cX11_stepLeaf 26 = .ok (.iconst (-1), 1) := by decide +kernel
theorem eX11_stepLeaf_27 : decode cX11_stepLeaf 27 = .ok (.iconst (-1), 1) := by decide +kernel
theorem eX11_stepLeaf_28 : decode cX11_stepLeaf 28 = .ok (.invokevirtual 594, 3) := by decide +kernel
theorem eX11_stepLeaf_31 : decode cX11_stepLeaf 31 = .ok (.invokevirtual 597, 3) := by decide +kernel
theorem eX11_stepLeaf_34 : decode cX11_stepLeaf 34 = .ok (.goto 148, 3) := by decide +kernel
theorem eX11_stepLeaf_37 : decode cX11_stepLeaf 37 = .ok (.iload_n 3, 1) := by decide +kernel
theorem eX11_stepLeaf_38 : decode cX11_stepLeaf 38 = .ok (.bipush 10, 2) := by decide +kernel
theorem eX11_stepLeaf_40 : decode cX11_stepLeaf 40 = .ok (.if_icmp .ne 18, 3) := by decide +kernel
theorem eX11_stepLeaf_43 : decode cX11_stepLeaf 43 = .ok (.aload_n 0, 1) := by decide +kernel
theorem eX11_stepLeaf_44 : decode cX11_stepLeaf 44 = .ok (.aload_n 0, 1) := by decide +kernel
theorem eX11_stepLeaf_45 : decode cX11_stepLeaf 45 = .ok (.iconst 2, 1) := by decide +kernel
theorem eX11_stepLeaf_46 : decode cX11_stepLeaf 46 = .ok (.iconst 0, 1) := by decide +kernel
theorem eX11_stepLeaf_47 : decode cX11_stepLeaf 47 = .ok (.iconst (-1), 1) := by decide +kernel
theorem eX11_stepLeaf_48 : decode cX11_stepLeaf 48 = .ok (.iconst (-1), 1) := by decide +kernel
theorem eX11_stepLeaf_49 : decode cX11_stepLeaf 49 = .ok (.invokevirtual 594, 3) := by decide +kernel
theorem eX11_stepLeaf_52 : decode cX11_stepLeaf 52 = .ok (.invokevirtual 597, 3) := by decide +kernel
theorem eX11_stepLeaf_55 : decode cX11_stepLeaf 55 = .ok (.goto 127, 3) := by decide +kernel
theorem eX11_stepLeaf_58 : decode cX11_stepLeaf 58 = .ok (.iload 4, 2) := by decide +kernel
theorem eX11_stepLeaf_60 : decode cX11_stepLeaf 60 = .ok (.ifCond .le 16, 3) := by decide +kernel
theorem eX11_stepLeaf_63 : decode cX11_stepLeaf 63 = .ok (.aload_n 0, 1) := by decide +kernel
theorem eX11_stepLeaf_64 : decode cX11_stepLeaf 64 = .ok (.dup, 1) := by decide +kernel
theorem eX11_stepLeaf_65 : decode cX11_stepLeaf 65 = .ok (.getfield 575, 3) := by decide +kernel
theorem eX11_stepLeaf_68 : decode cX11_stepLeaf 68 = .ok (.iconst 1, 1) := by decide +kernel
theorem eX11_stepLeaf_69 : decode cX11_stepLeaf 69 = .ok (.isub, 1) := by decide +kernel
theorem eX11_stepLeaf_70 : decode cX11_stepLeaf 70 = .ok (.putfield 575, 3) := by decide +kernel
theorem eX11_stepLeaf_73 : decode cX11_stepLeaf 73 = .ok (.goto 109, 3) := by decide +kernel
theorem eX11_stepLeaf_76 : decode cX11_stepLeaf 76 = .ok (.aload_n 0, 1) := by decide +kernel
theorem eX11_stepLeaf_77 : decode cX11_stepLeaf 77 = .ok (.aload_n 0, 1) := by decide +kernel
theorem eX11_stepLeaf_78 : decode cX11_stepLeaf 78 = .ok (.getfield 321, 3) := by decide +kernel
theorem eX11_stepLeaf_81 : decode cX11_stepLeaf 81 = .ok (.aload_n 0, 1) := by decide +kernel
theorem eX11_stepLeaf_82 : decode cX11_stepLeaf 82 = .ok (.getfield 164, 3) := by decide +kernel
theorem eX11_stepLeaf_85 : decode cX11_stepLeaf 85 = .ok (.iload_n 1, 1) := by decide +kernel
theorem eX11_stepLeaf_86 : decode cX11_stepLeaf 86 = .ok (.iaload, 1) := by decide +kernel
theorem eX11_stepLeaf_87 : decode cX11_stepLeaf 87 = .ok (.invokevirtual 372, 3) := by decide +kernel
theorem eX11_stepLeaf_90 : decode cX11_stepLeaf 90 = .ok (.ifCond .lt 45, 3) := by decide +kernel
theorem eX11_stepLeaf_93 : decode cX11_stepLeaf 93 = .ok (.aload_n 0, 1) := by decide +kernel
theorem eX11_stepLeaf_94 : decode cX11_stepLeaf 94 = .ok (.aload_n 0, 1) := by decide +kernel
theorem eX11_stepLeaf_95 : decode cX11_stepLeaf 95 = .ok (.aload_n 0, 1) := by decide +kernel
theorem eX11_stepLeaf_96 : decode cX11_stepLeaf 96 = .ok (.getfield 321, 3) := by decide +kernel
theorem eX11_stepLeaf_99 : decode cX11_stepLeaf 99 = .ok (.aload_n 0, 1) := by decide +kernel
theorem eX11_stepLeaf_100 : decode cX11_stepLeaf 100 = .ok (.getfield 164, 3) := by decide +kernel
theorem eX11_stepLeaf_103 : decode cX11_stepLeaf 103 = .ok (.iload_n 1, 1) := by decide +kernel
theorem eX11_stepLeaf_104 : decode cX11_stepLeaf 104 = .ok (.iaload, 1) := by decide +kernel
theorem eX11_stepLeaf_105 : decode cX11_stepLeaf 105 = .ok (.invokevirtual 372, 3) := by decide +kernel
theorem eX11_stepLeaf_108 : decode cX11_stepLeaf 108 = .ok (.aload_n 0, 1) := by decide +kernel
theorem eX11_stepLeaf_109 : decode cX11_stepLeaf 109 = .ok (.getfield 54, 3) := by decide +kernel
theorem eX11_stepLeaf_112 : decode cX11_stepLeaf 112 = .ok (.iload_n 2, 1) := by decide +kernel
theorem eX11_stepLeaf_113 : decode cX11_stepLeaf 113 = .ok (.iaload, 1) := by decide +kernel
theorem eX11_stepLeaf_114 : decode cX11_stepLeaf 114 = .ok (.bipush 100, 2) := by decide +kernel
theorem eX11_stepLeaf_116 : decode cX11_stepLeaf 116 = .ok (.if_icmp .lt 7, 3) := by decide +kernel
theorem eX11_stepLeaf_119 : decode cX11_stepLeaf 119 = .ok (.iconst (-1), 1) := by decide +kernel
theorem eX11_stepLeaf_120 : decode cX11_stepLeaf 120 = .ok (.goto 9, 3) := by decide +kernel
theorem eX11_stepLeaf_123 : decode cX11_stepLeaf 123 = .ok (.aload_n 0, 1) := by decide +kernel
theorem eX11_stepLeaf_124 : decode cX11_stepLeaf 124 = .ok (.getfield 170, 3) := by decide +kernel
theorem eX11_stepLeaf_127 : decode cX11_stepLeaf 127 = .ok (.iload_n 1, 1) := by decide +kernel
theorem eX11_stepLeaf_128 : decode cX11_stepLeaf 128 = .ok (.iaload, 1) := by decide +kernel
theorem eX11_stepLeaf_129 : decode cX11_stepLeaf 129 = .ok (.invokevirtual 584, 3) := by decide +kernel
theorem eX11_stepLeaf_132 : decode cX11_stepLeaf 132 = .ok (.goto 50, 3) := by decide +kernel
theorem eX11_stepLeaf_135 : decode cX11_stepLeaf 135 = .ok (.aload_n 0, 1) := by decide +kernel
theorem eX11_stepLeaf_136 : decode cX11_stepLeaf 136 = .ok (.getfield 170, 3) := by decide +kernel
theorem eX11_stepLeaf_139 : decode cX11_stepLeaf 139 = .ok (.iload_n 1, 1) := by decide +kernel
theorem eX11_stepLeaf_140 : decode cX11_stepLeaf 140 = .ok (.iaload, 1) := by decide +kernel
theorem eX11_stepLeaf_141 : decode cX11_stepLeaf 141 = .ok (.istore 5, 2) := by decide +kernel
theorem eX11_stepLeaf_143 : decode cX11_stepLeaf 143 = .ok (.aload_n 0, 1) := by decide +kernel
theorem eX11_stepLeaf_144 : decode cX11_stepLeaf 144 = .ok (.getfield 188, 3) := by decide +kernel
theorem eX11_stepLeaf_147 : decode cX11_stepLeaf 147 = .ok (.iload 5, 2) := by decide +kernel
theorem eX11_stepLeaf_149 : decode cX11_stepLeaf 149 = .ok (.iaload, 1) := by decide +kernel
theorem eX11_stepLeaf_150 : decode cX11_stepLeaf 150 = .ok (.aload_n 0, 1) := by decide +kernel
theorem eX11_stepLeaf_151 : decode cX11_stepLeaf 151 = .ok (.getfield 54, 3) := by decide +kernel
theorem eX11_stepLeaf_154 : decode cX11_stepLeaf 154 = .ok (.iload_n 2, 1) := by decide +kernel
theorem eX11_stepLeaf_155 : decode cX11_stepLeaf 155 = .ok (.iaload, 1) := by decide +kernel
theorem eX11_stepLeaf_156 : decode cX11_stepLeaf 156 = .ok (.if_icmp .eq 15, 3) := by decide +kernel
theorem eX11_stepLeaf_159 : decode cX11_stepLeaf 159 = .ok (.aload_n 0, 1) := by decide +kernel
theorem eX11_stepLeaf_160 : decode cX11_stepLeaf 160 = .ok (.getfield 194, 3) := by decide +kernel
theorem eX11_stepLeaf_163 : decode cX11_stepLeaf 163 = .ok (.iload 5, 2) := by decide +kernel
theorem eX11_stepLeaf_165 : decode cX11_stepLeaf 165 = .ok (.iaload, 1) := by decide +kernel
theorem eX11_stepLeaf_166 : decode cX11_stepLeaf 166 = .ok (.istore 5, 2) := by decide +kernel
theorem eX11_stepLeaf_168 : decode cX11_stepLeaf 168 = .ok (.goto (-25), 3) := by decide +kernel
theorem eX11_stepLeaf_171 : decode cX11_stepLeaf 171 = .ok (.aload_n 0, 1) := by decide +kernel
theorem eX11_stepLeaf_172 : decode cX11_stepLeaf 172 = .ok (.aload_n 0, 1) := by decide +kernel
theorem eX11_stepLeaf_173 : decode cX11_stepLeaf 173 = .ok (.getfield 191, 3) := by decide +kernel
theorem eX11_stepLeaf_176 : decode cX11_stepLeaf 176 = .ok (.iload 5, 2) := by decide +kernel
theorem eX11_stepLeaf_178 : decode cX11_stepLeaf 178 = .ok (.iaload, 1) := by decide +kernel
theorem eX11_stepLeaf_179 : decode cX11_stepLeaf 179 = .ok (.invokevirtual 597, 3) := by decide +kernel
theorem eX11_stepLeaf_182 : decode cX11_stepLeaf 182 = .ok (.return_, 1) := by decide +kernel
def C_X11_stepLeaf (s : ST) (p : Int) (q : Int) (u : Int) (w : Int) (Q : ST → Prop) : Prop := bx <| RA s → R32 p → R32 q → R32 u → R32 w → q_met mX11_stepLeaf (qs layM s) [.ref 139, .int (Int32.ofInt p), .int (Int32.ofInt q), .int (Int32.ofInt u), .int (Int32.ofInt w)] (PV layM Q)
theorem C_X11_stepLeaf.mono {s : ST} {p : Int} {q : Int} {u : Int} {w : Int} {Q Q' : ST → Prop} (h : C_X11_stepLeaf s p q u w Q) (hq : ∀ s, Q s → Q' s) : C_X11_stepLeaf s p q u w Q' := ⟨fun hA hrp hrq hru hrw => q_met.mono (h.1 hA hrp hrq hru hrw) (fun _ _ => PV.mono hq), trivial⟩
def K_X11_stepLeaf_143 (s : ST) (a2 : Int) (a5 : Int) (Q : ST → Prop) : Prop := bx <| RA s → R32 a2 → R32 a5 → q_K mX11_stepLeaf (qs layM s) 0 0 143 [(0, .ref 139), (2, .int (Int32.ofInt a2)), (5, .int (Int32.ofInt a5))] [] (q_fin mX11_stepLeaf (PV layM Q))
def K_X11_stepLeaf_129 (s : ST) (t1 : Int) (t2 : Int) (Q : ST → Prop) : Prop := bx <| RA s → R32 t1 → R32 t2 → q_K mX11_stepLeaf (qs layM s) 0 0 129 [] [.int (Int32.ofInt t2), .int (Int32.ofInt t1), .ref 139] (q_fin mX11_stepLeaf (PV layM Q))
def K_X11_stepLeaf_20 (s : ST) (a2 : Int) (t2 : Int) (Q : ST → Prop) : Prop := bx <| RA s → R32 a2 → R32 t2 → q_K mX11_stepLeaf (qs layM s) 0 0 20 [(0, .ref 139), (2, .int (Int32.ofInt a2))] [.int (Int32.ofInt t2), .ref 139, .ref 139] (q_fin mX11_stepLeaf (PV layM Q))
def K_X11_stepLeaf_9 (s : ST) (a2 : Int) (a3 : Int) (Q : ST → Prop) : Prop := bx <| RA s → R32 a2 → R32 a3 → q_K mX11_stepLeaf (qs layM s) 0 0 9 [(0, .ref 139), (2, .int (Int32.ofInt a2)), (3, .int (Int32.ofInt a3))] [] (q_fin mX11_stepLeaf (PV layM Q))
set_option maxRecDepth 20000 in
theorem s_X11_stepLeaf_143 {s : ST} {a2 : Int} {a5 : Int} {Q : ST → Prop} (h : RA s → R32 a2 → R32 a5 → (((0 : Int) ≤ a5 ∧ a5 < 4100) ∧ (((0 : Int) ≤ a2 ∧ a2 < 240) ∧ ((s.1 196 a5 = s.1 153 a2 → (C_X11_gives s (s.1 197 a5) (fun s3 => Q s3))) ∧ (¬ s.1 196 a5 = s.1 153 a2 → K_X11_stepLeaf_143 s a2 (s.1 198 a5) Q))))) : K_X11_stepLeaf_143 s a2 a5 Q := by
  refine ⟨?_, trivial⟩
  intro hA hra2 hra5
  have h := h hA hra2 hra5
  refine q_aload_n eX11_stepLeaf_143 rfl ?_
  refine q_getR (c := 11) (n := 0) (k := 80) (a := 196) eX11_stepLeaf_144 rfl (by decide) (by decide) fX11_188 rfl rfl ?_
  refine q_iload eX11_stepLeaf_147 rfl ?_
  have f1 := h.1
  have h := h.2
  refine z_iald (n := 4100) eX11_stepLeaf_149 rfl (ofz hra5) f1 ?_
  refine q_topI (v := Int32.ofInt (s.1 196 a5)) rfl ?_
  refine q_aload_n eX11_stepLeaf_150 rfl ?_
  refine q_getR (c := 11) (n := 0) (k := 22) (a := 153) eX11_stepLeaf_151 rfl (by decide) (by decide) fX11_54 rfl rfl ?_
  refine q_iload_n eX11_stepLeaf_154 rfl ?_
  have f2 := h.1
  have h := h.2
  refine z_iald (n := 240) eX11_stepLeaf_155 rfl (ofz hra2) f2 ?_
  refine q_topI (v := Int32.ofInt (s.1 153 a2)) rfl ?_
  refine q_cz_eq (tgt := 171) (a := s.1 196 a5) (b := s.1 153 a2) eX11_stepLeaf_156 (by decide) (ofz (hA _ _)) (ofz (hA _ _)) (fun c156 => ?_) (fun c156 => ?_)
  · have h := h.1 c156
    refine q_aload_n eX11_stepLeaf_171 rfl ?_
    refine q_aload_n eX11_stepLeaf_172 rfl ?_
    refine q_getR (c := 11) (n := 0) (k := 81) (a := 197) eX11_stepLeaf_173 rfl (by decide) (by decide) fX11_191 rfl rfl ?_
    refine q_iload eX11_stepLeaf_176 rfl ?_
    refine z_iald (n := 4100) eX11_stepLeaf_178 rfl (ofz hra5) f1 ?_
    refine q_topI (v := Int32.ofInt (s.1 197 a5)) rfl ?_
    refine q_V1 (ci := 11) (n := 0) eX11_stepLeaf_179 DX11_gives lX11_597 rfl (by decide) rfl rfl rfl rfl (h.1 hA (hA _ _)) ?_
    rintro _ _ ⟨s3, rfl, hA3, rfl, h⟩
    exact q_ret eX11_stepLeaf_182 rfl ⟨_, rfl, hA3, rfl, h⟩
  · have h := h.2 c156
    refine q_aload_n eX11_stepLeaf_159 rfl ?_
    refine q_getR (c := 11) (n := 0) (k := 82) (a := 198) eX11_stepLeaf_160 rfl (by decide) (by decide) fX11_194 rfl rfl ?_
    refine q_iload eX11_stepLeaf_163 rfl ?_
    refine z_iald (n := 4100) eX11_stepLeaf_165 rfl (ofz hra5) f1 ?_
    refine q_topI (v := Int32.ofInt (s.1 198 a5)) rfl ?_
    refine q_istore eX11_stepLeaf_166 (Nat.le_of_ble_eq_true rfl) ?_
    refine q_goto (tgt := 143) eX11_stepLeaf_168 (by decide) ?_
    exact q_subL rfl (h.1 hA hra2 (hA _ _))
set_option maxRecDepth 20000 in
theorem s_X11_stepLeaf_129 {s : ST} {t1 : Int} {t2 : Int} {Q : ST → Prop} (h : RA s → R32 t1 → R32 t2 → (C_X11_works s t1 t2 (fun s1 => Q s1))) : K_X11_stepLeaf_129 s t1 t2 Q := by
  refine ⟨?_, trivial⟩
  intro hA hrt1 hrt2
  have h := h hA hrt1 hrt2
  refine q_V2 (ci := 11) (n := 0) eX11_stepLeaf_129 DX11_works lX11_584 rfl (by decide) rfl rfl rfl rfl (h.1 hA hrt1 hrt2) ?_
  rintro _ _ ⟨s1, rfl, hA1, rfl, h⟩
  refine q_goto (tgt := 182) eX11_stepLeaf_132 (by decide) ?_
  exact q_ret eX11_stepLeaf_182 rfl ⟨_, rfl, hA1, rfl, h⟩
set_option maxRecDepth 20000 in
theorem s_X11_stepLeaf_20 {s : ST} {a2 : Int} {t2 : Int} {Q : ST → Prop} (h : RA s → R32 a2 → R32 t2 → (((0 : Int) ≤ a2 ∧ a2 < 240) ∧ (C_X11_valueOf s t2 (s.1 147 a2) (-1) (-1) (fun s2 v2 => (C_X11_gives s2 v2 (fun s3 => Q s3)))))) : K_X11_stepLeaf_20 s a2 t2 Q := by
  refine ⟨?_, trivial⟩
  intro hA hra2 hrt2
  have h := h hA hra2 hrt2
  refine q_aload_n eX11_stepLeaf_20 rfl ?_
  refine q_getR (c := 11) (n := 0) (k := 16) (a := 147) eX11_stepLeaf_21 rfl (by decide) (by decide) fX11_36 rfl rfl ?_
  refine q_iload_n eX11_stepLeaf_24 rfl ?_
  have f1 := h.1
  have h := h.2
  refine z_iald (n := 240) eX11_stepLeaf_25 rfl (ofz hra2) f1 ?_
  refine q_topI (v := Int32.ofInt (s.1 147 a2)) rfl ?_
  refine q_ic (v := Int32.ofInt (-1)) eX11_stepLeaf_26 rfl ?_
  refine q_ic (v := Int32.ofInt (-1)) eX11_stepLeaf_27 rfl ?_
  refine q_V4 (ci := 11) (n := 0) eX11_stepLeaf_28 DX11_valueOf lX11_594 rfl (by decide) rfl rfl rfl rfl (h.1 hA hrt2 (hA _ _) (r32l rfl) (r32l rfl)) ?_
  rintro _ _ ⟨s2, v2, rfl, hA2, r2, rfl, h⟩
  refine q_V1 (ci := 11) (n := 0) eX11_stepLeaf_31 DX11_gives lX11_597 rfl (by decide) rfl rfl rfl rfl (h.1 hA2 r2) ?_
  rintro _ _ ⟨s3, rfl, hA3, rfl, h⟩
  refine q_goto (tgt := 182) eX11_stepLeaf_34 (by decide) ?_
  exact q_ret eX11_stepLeaf_182 rfl ⟨_, rfl, hA3, rfl, h⟩
set_option maxRecDepth 20000 in
theorem s_X11_stepLeaf_9 {s : ST} {a2 : Int} {a3 : Int} {Q : ST → Prop} (h : RA s → R32 a2 → R32 a3 → ((¬ a3 = 0 → K_X11_stepLeaf_20 s a2 1 Q) ∧ (a3 = 0 → K_X11_stepLeaf_20 s a2 0 Q))) : K_X11_stepLeaf_9 s a2 a3 Q := by
  refine ⟨?_, trivial⟩
  intro hA hra2 hra3
  have h := h hA hra2 hra3
  refine q_aload_n eX11_stepLeaf_9 rfl ?_
  refine q_aload_n eX11_stepLeaf_10 rfl ?_
  refine q_iload_n eX11_stepLeaf_11 rfl ?_
  refine q_iz_ne (tgt := 19) (a := a3) eX11_stepLeaf_12 (by decide) (ofz hra3) (fun c12 => ?_) (fun c12 => ?_)
  · have h := h.1 c12
    refine q_ic (v := Int32.ofInt 1) eX11_stepLeaf_19 rfl ?_
    exact q_subL rfl (h.1 hA hra2 (r32l rfl))
  · have h := h.2 c12
    refine q_ic (v := Int32.ofInt 0) eX11_stepLeaf_15 rfl ?_
    refine q_goto (tgt := 20) eX11_stepLeaf_16 (by decide) ?_
    exact q_subL rfl (h.1 hA hra2 (r32l rfl))
set_option maxRecDepth 20000 in
theorem s_X11_stepLeaf {s : ST} {p : Int} {q : Int} {u : Int} {w : Int} {Q : ST → Prop} (h : RA s → R32 p → R32 q → R32 u → R32 w → ((u = 0 → K_X11_stepLeaf_9 s q u Q) ∧ (¬ u = 0 → ((¬ u = 1 → ((¬ u = 10 → ((w ≤ 0 → (((0 : Int) ≤ p ∧ p < 152) ∧ (P_X11_rootOf s (s.1 139 28) (s.1 188 p) ∧ (((F_X11_rootOf s (s.1 139 28) (s.1 188 p)) < 0 → K_X11_stepLeaf_143 s q (s.1 190 p) Q) ∧ (¬ (F_X11_rootOf s (s.1 139 28) (s.1 188 p)) < 0 → (((0 : Int) ≤ q ∧ q < 240) ∧ ((s.1 153 q < 100 → K_X11_stepLeaf_129 s (F_X11_rootOf s (s.1 139 28) (s.1 188 p)) (s.1 190 p) Q) ∧ (¬ s.1 153 q < 100 → K_X11_stepLeaf_129 s (F_X11_rootOf s (s.1 139 28) (s.1 188 p)) (-1) Q)))))))) ∧ (¬ w ≤ 0 → (R32 (s.1 139 83 - 1) ∧ Q (ui s 139 83 (s.1 139 83 - 1)))))) ∧ (u = 10 → (C_X11_valueOf s 2 0 (-1) (-1) (fun s7 v7 => (C_X11_gives s7 v7 (fun s8 => Q s8))))))) ∧ (u = 1 → K_X11_stepLeaf_9 s q u Q))))) : C_X11_stepLeaf s p q u w Q := by
  refine ⟨?_, trivial⟩
  intro hA hrp hrq hru hrw
  have h := h hA hrp hrq hru hrw
  refine q_enter (by decide) (Nat.le_of_ble_eq_true rfl) ?_
  refine q_iload_n eX11_stepLeaf_0 rfl ?_
  refine q_iz_eq (tgt := 9) (a := u) eX11_stepLeaf_1 (by decide) (ofz hru) (fun c1 => ?_) (fun c1 => ?_)
  · have h := h.1 c1
    exact q_subL rfl (h.1 hA hrq hru)
  · have h := h.2 c1
    refine q_iload_n eX11_stepLeaf_4 rfl ?_
    refine q_ic (v := Int32.ofInt 1) eX11_stepLeaf_5 rfl ?_
    refine q_cz_ne (tgt := 37) (a := u) (b := 1) eX11_stepLeaf_6 (by decide) (ofz hru) (ofz (r32l rfl)) (fun c6 => ?_) (fun c6 => ?_)
    · have h := h.1 c6
      refine q_iload_n eX11_stepLeaf_37 rfl ?_
      refine q_bi (v := Int32.ofInt 10) eX11_stepLeaf_38 rfl ?_
      refine q_cz_ne (tgt := 58) (a := u) (b := 10) eX11_stepLeaf_40 (by decide) (ofz hru) (ofz (r32l rfl)) (fun c40 => ?_) (fun c40 => ?_)
      · have h := h.1 c40
        refine q_iload eX11_stepLeaf_58 rfl ?_
        refine q_iz_le (tgt := 76) (a := w) eX11_stepLeaf_60 (by decide) (ofz hrw) (fun c60 => ?_) (fun c60 => ?_)
        · have h := h.1 c60
          refine q_aload_n eX11_stepLeaf_76 rfl ?_
          refine q_aload_n eX11_stepLeaf_77 rfl ?_
          refine q_getf (c := 11) (n := 0) (k := 28) (v := .int (Int32.ofInt (s.1 139 28))) eX11_stepLeaf_78 rfl (by decide) (by decide) fX11_321 rfl ?_
          refine q_aload_n eX11_stepLeaf_81 rfl ?_
          refine q_getR (c := 11) (n := 0) (k := 72) (a := 188) eX11_stepLeaf_82 rfl (by decide) (by decide) fX11_164 rfl rfl ?_
          refine q_iload_n eX11_stepLeaf_85 rfl ?_
          have f1 := h.1
          have h := h.2
          refine z_iald (n := 152) eX11_stepLeaf_86 rfl (ofz hrp) f1 ?_
          refine q_topI (v := Int32.ofInt (s.1 188 p)) rfl ?_
          have f3 := h.1
          have h := h.2
          refine q_V2 (ci := 11) (n := 0) eX11_stepLeaf_87 DX11_rootOf lX11_372 rfl (by decide) rfl rfl rfl rfl (p_X11_rootOf f3 hA (hA _ _) (hA _ _)) ?_
          rintro _ _ ⟨r2, rfl, rfl⟩
          refine q_iz_lt (tgt := 135) (a := (F_X11_rootOf s (s.1 139 28) (s.1 188 p))) eX11_stepLeaf_90 (by decide) (ofz r2) (fun c90 => ?_) (fun c90 => ?_)
          · have h := h.1 c90
            refine q_aload_n eX11_stepLeaf_135 rfl ?_
            refine q_getR (c := 11) (n := 0) (k := 74) (a := 190) eX11_stepLeaf_136 rfl (by decide) (by decide) fX11_170 rfl rfl ?_
            refine q_iload_n eX11_stepLeaf_139 rfl ?_
            refine z_iald (n := 152) eX11_stepLeaf_140 rfl (ofz hrp) f1 ?_
            refine q_topI (v := Int32.ofInt (s.1 190 p)) rfl ?_
            refine q_istore eX11_stepLeaf_141 (Nat.le_of_ble_eq_true rfl) ?_
            exact q_subL rfl (h.1 hA hrq (hA _ _))
          · have h := h.2 c90
            refine q_aload_n eX11_stepLeaf_93 rfl ?_
            refine q_aload_n eX11_stepLeaf_94 rfl ?_
            refine q_aload_n eX11_stepLeaf_95 rfl ?_
            refine q_getf (c := 11) (n := 0) (k := 28) (v := .int (Int32.ofInt (s.1 139 28))) eX11_stepLeaf_96 rfl (by decide) (by decide) fX11_321 rfl ?_
            refine q_aload_n eX11_stepLeaf_99 rfl ?_
            refine q_getR (c := 11) (n := 0) (k := 72) (a := 188) eX11_stepLeaf_100 rfl (by decide) (by decide) fX11_164 rfl rfl ?_
            refine q_iload_n eX11_stepLeaf_103 rfl ?_
            refine z_iald (n := 152) eX11_stepLeaf_104 rfl (ofz hrp) f1 ?_
            refine q_topI (v := Int32.ofInt (s.1 188 p)) rfl ?_
            refine q_V2 (ci := 11) (n := 0) eX11_stepLeaf_105 DX11_rootOf lX11_372 rfl (by decide) rfl rfl rfl rfl (p_X11_rootOf f3 hA (hA _ _) (hA _ _)) ?_
            rintro _ _ ⟨r4, rfl, rfl⟩
            refine q_aload_n eX11_stepLeaf_108 rfl ?_
            refine q_getR (c := 11) (n := 0) (k := 22) (a := 153) eX11_stepLeaf_109 rfl (by decide) (by decide) fX11_54 rfl rfl ?_
            refine q_iload_n eX11_stepLeaf_112 rfl ?_
            have f5 := h.1
            have h := h.2
            refine z_iald (n := 240) eX11_stepLeaf_113 rfl (ofz hrq) f5 ?_
            refine q_topI (v := Int32.ofInt (s.1 153 q)) rfl ?_
            refine q_bi (v := Int32.ofInt 100) eX11_stepLeaf_114 rfl ?_
            refine q_cz_lt (tgt := 123) (a := s.1 153 q) (b := 100) eX11_stepLeaf_116 (by decide) (ofz (hA _ _)) (ofz (r32l rfl)) (fun c116 => ?_) (fun c116 => ?_)
            · have h := h.1 c116
              refine q_aload_n eX11_stepLeaf_123 rfl ?_
              refine q_getR (c := 11) (n := 0) (k := 74) (a := 190) eX11_stepLeaf_124 rfl (by decide) (by decide) fX11_170 rfl rfl ?_
              refine q_iload_n eX11_stepLeaf_127 rfl ?_
              refine z_iald (n := 152) eX11_stepLeaf_128 rfl (ofz hrp) f1 ?_
              refine q_topI (v := Int32.ofInt (s.1 190 p)) rfl ?_
              exact q_subL rfl (h.1 hA r4 (hA _ _))
            · have h := h.2 c116
              refine q_ic (v := Int32.ofInt (-1)) eX11_stepLeaf_119 rfl ?_
              refine q_goto (tgt := 129) eX11_stepLeaf_120 (by decide) ?_
              exact q_subL rfl (h.1 hA r4 (r32l rfl))
        · have h := h.2 c60
          refine q_aload_n eX11_stepLeaf_63 rfl ?_
          refine q_dup eX11_stepLeaf_64 rfl ?_
          refine q_getf (c := 11) (n := 0) (k := 83) (v := .int (Int32.ofInt (s.1 139 83))) eX11_stepLeaf_65 rfl (by decide) (by decide) fX11_575 rfl ?_
          refine q_ic (v := Int32.ofInt 1) eX11_stepLeaf_68 rfl ?_
          refine z_isub eX11_stepLeaf_69 ?_
          have r6 := h.1
          have h := h.2
          refine z_putI (c := 11) (n := 0) (k := 83) (kz := 83) eX11_stepLeaf_70 rfl (by decide) (by decide) fX11_575 rfl rfl rfl ?_
          refine q_goto (tgt := 182) eX11_stepLeaf_73 (by decide) ?_
          exact q_ret eX11_stepLeaf_182 rfl ⟨_, rfl, (ra_ui hA r6), rfl, h⟩
      · have h := h.2 c40
        refine q_aload_n eX11_stepLeaf_43 rfl ?_
        refine q_aload_n eX11_stepLeaf_44 rfl ?_
        refine q_ic (v := Int32.ofInt 2) eX11_stepLeaf_45 rfl ?_
        refine q_ic (v := Int32.ofInt 0) eX11_stepLeaf_46 rfl ?_
        refine q_ic (v := Int32.ofInt (-1)) eX11_stepLeaf_47 rfl ?_
        refine q_ic (v := Int32.ofInt (-1)) eX11_stepLeaf_48 rfl ?_
        refine q_V4 (ci := 11) (n := 0) eX11_stepLeaf_49 DX11_valueOf lX11_594 rfl (by decide) rfl rfl rfl rfl (h.1 hA (r32l rfl) (r32l rfl) (r32l rfl) (r32l rfl)) ?_
        rintro _ _ ⟨s7, v7, rfl, hA7, r7, rfl, h⟩
        refine q_V1 (ci := 11) (n := 0) eX11_stepLeaf_52 DX11_gives lX11_597 rfl (by decide) rfl rfl rfl rfl (h.1 hA7 r7) ?_
        rintro _ _ ⟨s8, rfl, hA8, rfl, h⟩
        refine q_goto (tgt := 182) eX11_stepLeaf_55 (by decide) ?_
        exact q_ret eX11_stepLeaf_182 rfl ⟨_, rfl, hA8, rfl, h⟩
    · have h := h.2 c6
      exact q_subL rfl (h.1 hA hrq hru)
theorem eX11_stepIf_0 : decode cX11_stepIf 0 = .ok (.iload_n 3, 1) := by decide +kernel
theorem eX11_stepIf_1 : decode cX11_stepIf 1 = .ok (.iconst 2, 1) := by decide +kernel
theorem eX11_stepIf_2 : decode cX11_stepIf 2 = .ok (.if_icmp .ne 16, 3) := by decide +kernel
theorem eX11_stepIf_5 : decode cX11_stepIf 5 = .ok (.aload_n 0, 1) := by decide +kernel
theorem eX11_stepIf_6 : decode cX11_stepIf 6 = .ok (.dup, 1) := by decide +kernel
theorem eX11_stepIf_7 : decode cX11_stepIf 7 = .ok (.getfield 575, 3) := by decide +kernel
theorem eX11_stepIf_10 : decode cX11_stepIf 10 = .ok (.iconst 1, 1) := by decide +kernel
theorem eX11_stepIf_11 : decode cX11_stepIf 11 = .ok (.isub, 1) := by decide +kernel
theorem eX11_stepIf_12 : decode cX11_stepIf 12 = .ok (.putfield 575, 3) := by decide +kernel
theorem eX11_stepIf_15 : decode cX11_stepIf 15 = .ok (.goto 75, 3) := by decide +kernel
theorem eX11_stepIf_18 : decode cX11_stepIf 18 = .ok (.iload_n 3, 1) := by decide +kernel
theorem eX11_stepIf_19 : decode cX11_stepIf 19 = .ok (.iconst 1, 1) := by decide +kernel
theorem eX11_stepIf_20 : decode cX11_stepIf 20 = .ok (.if_icmp .ne 25, 3) := by decide +kernel
theorem eX11_stepIf_23 : decode cX11_stepIf 23 = .ok (.aload_n 0, 1) := by decide +kernel
theorem eX11_stepIf_24 : decode cX11_stepIf 24 = .ok (.getfield 176, 3) := by decide +kernel
theorem eX11_stepIf_27 : decode cX11_stepIf 27 = .ok (.aload_n 0, 1) := by decide +kernel
theorem eX11_stepIf_28 : decode cX11_stepIf 28 = .ok (.getfield 603, 3) := by decide +kernel
theorem eX11_stepIf_31 : decode cX11_stepIf 31 = .ok (.iaload, 1) := by decide +kernel
theorem eX11_stepIf_32 : decode cX11_stepIf 32 = .ok (.iconst 1, 1) := by decide +kernel
theorem eX11_stepIf_33 : decode cX11_stepIf 33 = .ok (.if_icmp .eq 12, 3) := by decide +kernel
theorem eX11_stepIf_36 : decode cX11_stepIf 36 = .ok (.aload_n 0, 1) := by decide +kernel
theorem eX11_stepIf_37 : decode cX11_stepIf 37 = .ok (.bipush (-2), 2) := by decide +kernel
theorem eX11_stepIf_39 : decode cX11_stepIf 39 = .ok (.putfield 578, 3) := by decide +kernel
theorem eX11_stepIf_42 : decode cX11_stepIf 42 = .ok (.goto 48, 3) := by decide +kernel
theorem eX11_stepIf_45 : decode cX11_stepIf 45 = .ok (.aload_n 0, 1) := by decide +kernel
theorem eX11_stepIf_46 : decode cX11_stepIf 46 = .ok (.aload_n 0, 1) := by decide +kernel
theorem eX11_stepIf_47 : decode cX11_stepIf 47 = .ok (.getfield 51, 3) := by decide +kernel
theorem eX11_stepIf_50 : decode cX11_stepIf 50 = .ok (.iconst 3, 1) := by decide +kernel
theorem eX11_stepIf_51 : decode cX11_stepIf 51 = .ok (.iload_n 2, 1) := by decide +kernel
theorem eX11_stepIf_52 : decode cX11_stepIf 52 = .ok (.imul, 1) := by decide +kernel
theorem eX11_stepIf_53 : decode cX11_stepIf 53 = .ok (.iload_n 3, 1) := by decide +kernel
theorem eX11_stepIf_54 : decode cX11_stepIf 54 = .ok (.ifCond .ne 7, 3) := by decide +kernel
theorem eX11_stepIf_57 : decode cX11_stepIf 57 = .ok (.iconst 0, 1) := by decide +kernel
theorem eX11_stepIf_58 : decode cX11_stepIf 58 = .ok (.goto 21, 3) := by decide +kernel
theorem eX11_stepIf_61 : decode cX11_stepIf 61 = .ok (.aload_n 0, 1) := by decide +kernel
theorem eX11_stepIf_62 : decode cX11_stepIf 62 = .ok (.getfield 179, 3) := by decide +kernel
theorem eX11_stepIf_65 : decode cX11_stepIf 65 = .ok (.aload_n 0, 1) := by decide +kernel
theorem eX11_stepIf_66 : decode cX11_stepIf 66 = .ok (.getfield 603, 3) := by decide +kernel
theorem eX11_stepIf_69 : decode cX11_stepIf 69 = .ok (.iaload, 1) := by decide +kernel
theorem eX11_stepIf_70 : decode cX11_stepIf 70 = .ok (.iconst 1, 1) := by decide +kernel
theorem eX11_stepIf_71 : decode cX11_stepIf 71 = .ok (.if_icmp .ne 7, 3) := by decide +kernel
theorem eX11_stepIf_74 : decode cX11_stepIf 74 = .ok (.iconst 1, 1) := by decide +kernel
theorem eX11_stepIf_75 : decode cX11_stepIf 75 = .ok (.goto 4, 3) := by decide +kernel
theorem eX11_stepIf_78 : decode cX11_stepIf 78 = .ok (.iconst 2, 1) := by decide +kernel
theorem eX11_stepIf_79 : decode cX11_stepIf 79 = .ok (.iadd, 1) := by decide +kernel
theorem eX11_stepIf_80 : decode cX11_stepIf 80 = .ok (.iaload, 1) := by decide +kernel
theorem eX11_stepIf_81 : decode cX11_stepIf 81 = .ok (.aload_n 0, 1) := by decide +kernel
theorem eX11_stepIf_82 : decode cX11_stepIf 82 = .ok (.getfield 170, 3) := by decide +kernel
theorem eX11_stepIf_85 : decode cX11_stepIf 85 = .ok (.iload_n 1, 1) := by decide +kernel
theorem eX11_stepIf_86 : decode cX11_stepIf 86 = .ok (.iaload, 1) := by decide +kernel
theorem eX11_stepIf_87 : decode cX11_stepIf 87 = .ok (.invokevirtual 584, 3) := by decide +kernel
theorem eX11_stepIf_90 : decode cX11_stepIf 90 = .ok (.return_, 1) := by decide +kernel
def C_X11_stepIf (s : ST) (p : Int) (q : Int) (u : Int) (Q : ST → Prop) : Prop := bx <| RA s → R32 p → R32 q → R32 u → q_met mX11_stepIf (qs layM s) [.ref 139, .int (Int32.ofInt p), .int (Int32.ofInt q), .int (Int32.ofInt u)] (PV layM Q)
theorem C_X11_stepIf.mono {s : ST} {p : Int} {q : Int} {u : Int} {Q Q' : ST → Prop} (h : C_X11_stepIf s p q u Q) (hq : ∀ s, Q s → Q' s) : C_X11_stepIf s p q u Q' := ⟨fun hA hrp hrq hru => q_met.mono (h.1 hA hrp hrq hru) (fun _ _ => PV.mono hq), trivial⟩
def K_X11_stepIf_79 (s : ST) (a1 : Int) (t2 : Int) (t3 : Int) (Q : ST → Prop) : Prop := bx <| RA s → R32 a1 → R32 t2 → R32 t3 → q_K mX11_stepIf (qs layM s) 0 0 79 [(0, .ref 139), (1, .int (Int32.ofInt a1))] [.int (Int32.ofInt t3), .int (Int32.ofInt t2), .ref 152, .ref 139] (q_fin mX11_stepIf (PV layM Q))
def K_X11_stepIf_45 (s : ST) (a1 : Int) (a2 : Int) (a3 : Int) (Q : ST → Prop) : Prop := bx <| RA s → R32 a1 → R32 a2 → R32 a3 → q_K mX11_stepIf (qs layM s) 0 0 45 [(0, .ref 139), (1, .int (Int32.ofInt a1)), (2, .int (Int32.ofInt a2)), (3, .int (Int32.ofInt a3))] [] (q_fin mX11_stepIf (PV layM Q))
set_option maxRecDepth 20000 in
theorem s_X11_stepIf_79 {s : ST} {a1 : Int} {t2 : Int} {t3 : Int} {Q : ST → Prop} (h : RA s → R32 a1 → R32 t2 → R32 t3 → (R32 (t2 + t3) ∧ (((0 : Int) ≤ (t2 + t3) ∧ (t2 + t3) < 720) ∧ (((0 : Int) ≤ a1 ∧ a1 < 152) ∧ (C_X11_works s (s.1 152 (t2 + t3)) (s.1 190 a1) (fun s4 => Q s4)))))) : K_X11_stepIf_79 s a1 t2 t3 Q := by
  refine ⟨?_, trivial⟩
  intro hA hra1 hrt2 hrt3
  have h := h hA hra1 hrt2 hrt3
  refine z_iadd eX11_stepIf_79 ?_
  have r1 := h.1
  have h := h.2
  have f2 := h.1
  have h := h.2
  refine z_iald (n := 720) eX11_stepIf_80 rfl (ofz r1) f2 ?_
  refine q_topI (v := Int32.ofInt (s.1 152 (t2 + t3))) rfl ?_
  refine q_aload_n eX11_stepIf_81 rfl ?_
  refine q_getR (c := 11) (n := 0) (k := 74) (a := 190) eX11_stepIf_82 rfl (by decide) (by decide) fX11_170 rfl rfl ?_
  refine q_iload_n eX11_stepIf_85 rfl ?_
  have f3 := h.1
  have h := h.2
  refine z_iald (n := 152) eX11_stepIf_86 rfl (ofz hra1) f3 ?_
  refine q_topI (v := Int32.ofInt (s.1 190 a1)) rfl ?_
  refine q_V2 (ci := 11) (n := 0) eX11_stepIf_87 DX11_works lX11_584 rfl (by decide) rfl rfl rfl rfl (h.1 hA (hA _ _) (hA _ _)) ?_
  rintro _ _ ⟨s4, rfl, hA4, rfl, h⟩
  exact q_ret eX11_stepIf_90 rfl ⟨_, rfl, hA4, rfl, h⟩
set_option maxRecDepth 20000 in
theorem s_X11_stepIf_45 {s : ST} {a1 : Int} {a2 : Int} {a3 : Int} {Q : ST → Prop} (h : RA s → R32 a1 → R32 a2 → R32 a3 → (R32 (3 * a2) ∧ ((¬ a3 = 0 → (((0 : Int) ≤ s.1 139 87 ∧ s.1 139 87 < 4100) ∧ ((¬ s.1 193 (s.1 139 87) = 1 → K_X11_stepIf_79 s a1 (3 * a2) 2 Q) ∧ (s.1 193 (s.1 139 87) = 1 → K_X11_stepIf_79 s a1 (3 * a2) 1 Q)))) ∧ (a3 = 0 → K_X11_stepIf_79 s a1 (3 * a2) 0 Q)))) : K_X11_stepIf_45 s a1 a2 a3 Q := by
  refine ⟨?_, trivial⟩
  intro hA hra1 hra2 hra3
  have h := h hA hra1 hra2 hra3
  refine q_aload_n eX11_stepIf_45 rfl ?_
  refine q_aload_n eX11_stepIf_46 rfl ?_
  refine q_getR (c := 11) (n := 0) (k := 21) (a := 152) eX11_stepIf_47 rfl (by decide) (by decide) fX11_51 rfl rfl ?_
  refine q_ic (v := Int32.ofInt 3) eX11_stepIf_50 rfl ?_
  refine q_iload_n eX11_stepIf_51 rfl ?_
  refine z_imul eX11_stepIf_52 ?_
  have r1 := h.1
  have h := h.2
  refine q_iload_n eX11_stepIf_53 rfl ?_
  refine q_iz_ne (tgt := 61) (a := a3) eX11_stepIf_54 (by decide) (ofz hra3) (fun c54 => ?_) (fun c54 => ?_)
  · have h := h.1 c54
    refine q_aload_n eX11_stepIf_61 rfl ?_
    refine q_getR (c := 11) (n := 0) (k := 77) (a := 193) eX11_stepIf_62 rfl (by decide) (by decide) fX11_179 rfl rfl ?_
    refine q_aload_n eX11_stepIf_65 rfl ?_
    refine q_getf (c := 11) (n := 0) (k := 87) (v := .int (Int32.ofInt (s.1 139 87))) eX11_stepIf_66 rfl (by decide) (by decide) fX11_603 rfl ?_
    have f2 := h.1
    have h := h.2
    refine z_iald (n := 4100) eX11_stepIf_69 rfl (ofz (hA _ _)) f2 ?_
    refine q_topI (v := Int32.ofInt (s.1 193 (s.1 139 87))) rfl ?_
    refine q_ic (v := Int32.ofInt 1) eX11_stepIf_70 rfl ?_
    refine q_cz_ne (tgt := 78) (a := s.1 193 (s.1 139 87)) (b := 1) eX11_stepIf_71 (by decide) (ofz (hA _ _)) (ofz (r32l rfl)) (fun c71 => ?_) (fun c71 => ?_)
    · have h := h.1 c71
      refine q_ic (v := Int32.ofInt 2) eX11_stepIf_78 rfl ?_
      exact q_subL rfl (h.1 hA hra1 r1 (r32l rfl))
    · have h := h.2 c71
      refine q_ic (v := Int32.ofInt 1) eX11_stepIf_74 rfl ?_
      refine q_goto (tgt := 79) eX11_stepIf_75 (by decide) ?_
      exact q_subL rfl (h.1 hA hra1 r1 (r32l rfl))
  · have h := h.2 c54
    refine q_ic (v := Int32.ofInt 0) eX11_stepIf_57 rfl ?_
    refine q_goto (tgt := 79) eX11_stepIf_58 (by decide) ?_
    exact q_subL rfl (h.1 hA hra1 r1 (r32l rfl))
set_option maxRecDepth 20000 in
theorem s_X11_stepIf {s : ST} {p : Int} {q : Int} {u : Int} {Q : ST → Prop} (h : RA s → R32 p → R32 q → R32 u → ((¬ u = 2 → ((¬ u = 1 → K_X11_stepIf_45 s p q u Q) ∧ (u = 1 → (((0 : Int) ≤ s.1 139 87 ∧ s.1 139 87 < 4100) ∧ ((s.1 192 (s.1 139 87) = 1 → K_X11_stepIf_45 s p q u Q) ∧ (¬ s.1 192 (s.1 139 87) = 1 → Q (ui s 139 88 (-2)))))))) ∧ (u = 2 → (R32 (s.1 139 83 - 1) ∧ Q (ui s 139 83 (s.1 139 83 - 1)))))) : C_X11_stepIf s p q u Q := by
  refine ⟨?_, trivial⟩
  intro hA hrp hrq hru
  have h := h hA hrp hrq hru
  refine q_enter (by decide) (Nat.le_of_ble_eq_true rfl) ?_
  refine q_iload_n eX11_stepIf_0 rfl ?_
  refine q_ic (v := Int32.ofInt 2) eX11_stepIf_1 rfl ?_
  refine q_cz_ne (tgt := 18) (a := u) (b := 2) eX11_stepIf_2 (by decide) (ofz hru) (ofz (r32l rfl)) (fun c2 => ?_) (fun c2 => ?_)
  · have h := h.1 c2
    refine q_iload_n eX11_stepIf_18 rfl ?_
    refine q_ic (v := Int32.ofInt 1) eX11_stepIf_19 rfl ?_
    refine q_cz_ne (tgt := 45) (a := u) (b := 1) eX11_stepIf_20 (by decide) (ofz hru) (ofz (r32l rfl)) (fun c20 => ?_) (fun c20 => ?_)
    · have h := h.1 c20
      exact q_subL rfl (h.1 hA hrp hrq hru)
    · have h := h.2 c20
      refine q_aload_n eX11_stepIf_23 rfl ?_
      refine q_getR (c := 11) (n := 0) (k := 76) (a := 192) eX11_stepIf_24 rfl (by decide) (by decide) fX11_176 rfl rfl ?_
      refine q_aload_n eX11_stepIf_27 rfl ?_
      refine q_getf (c := 11) (n := 0) (k := 87) (v := .int (Int32.ofInt (s.1 139 87))) eX11_stepIf_28 rfl (by decide) (by decide) fX11_603 rfl ?_
      have f1 := h.1
      have h := h.2
      refine z_iald (n := 4100) eX11_stepIf_31 rfl (ofz (hA _ _)) f1 ?_
      refine q_topI (v := Int32.ofInt (s.1 192 (s.1 139 87))) rfl ?_
      refine q_ic (v := Int32.ofInt 1) eX11_stepIf_32 rfl ?_
      refine q_cz_eq (tgt := 45) (a := s.1 192 (s.1 139 87)) (b := 1) eX11_stepIf_33 (by decide) (ofz (hA _ _)) (ofz (r32l rfl)) (fun c33 => ?_) (fun c33 => ?_)
      · have h := h.1 c33
        exact q_subL rfl (h.1 hA hrp hrq hru)
      · have h := h.2 c33
        refine q_aload_n eX11_stepIf_36 rfl ?_
        refine q_bi (v := Int32.ofInt (-2)) eX11_stepIf_37 rfl ?_
        refine z_putI (c := 11) (n := 0) (k := 88) (kz := 88) eX11_stepIf_39 rfl (by decide) (by decide) fX11_578 rfl rfl rfl ?_
        refine q_goto (tgt := 90) eX11_stepIf_42 (by decide) ?_
        exact q_ret eX11_stepIf_90 rfl ⟨_, rfl, (ra_ui hA (r32l rfl)), rfl, h⟩
  · have h := h.2 c2
    refine q_aload_n eX11_stepIf_5 rfl ?_
    refine q_dup eX11_stepIf_6 rfl ?_
    refine q_getf (c := 11) (n := 0) (k := 83) (v := .int (Int32.ofInt (s.1 139 83))) eX11_stepIf_7 rfl (by decide) (by decide) fX11_575 rfl ?_
    refine q_ic (v := Int32.ofInt 1) eX11_stepIf_10 rfl ?_
    refine z_isub eX11_stepIf_11 ?_
    have r2 := h.1
    have h := h.2
    refine z_putI (c := 11) (n := 0) (k := 83) (kz := 83) eX11_stepIf_12 rfl (by decide) (by decide) fX11_575 rfl rfl rfl ?_
    refine q_goto (tgt := 90) eX11_stepIf_15 (by decide) ?_
    exact q_ret eX11_stepIf_90 rfl ⟨_, rfl, (ra_ui hA r2), rfl, h⟩
theorem eX11_call_0 : decode cX11_call 0 = .ok (.aload_n 0, 1) := by decide +kernel
theorem eX11_call_1 : decode cX11_call 1 = .ok (.getfield 173, 3) := by decide +kernel
theorem eX11_call_4 : decode cX11_call 4 = .ok (.iload_n 1, 1) := by decide +kernel
theorem eX11_call_5 : decode cX11_call 5 = .ok (.iaload, 1) := by decide +kernel
theorem eX11_call_6 : decode cX11_call 6 = .ok (.istore_n 2, 1) := by decide +kernel
theorem eX11_call_7 : decode cX11_call 7 = .ok (.aload_n 0, 1) := by decide +kernel
theorem eX11_call_8 : decode cX11_call 8 = .ok (.getfield 176, 3) := by decide +kernel
theorem eX11_call_11 : decode cX11_call 11 = .ok (.iload_n 2, 1) := by decide +kernel
theorem eX11_call_12 : decode cX11_call 12 = .ok (.iaload, 1) := by decide +kernel
theorem eX11_call_13 : decode cX11_call 13 = .ok (.iconst 4, 1) := by decide +kernel
theorem eX11_call_14 : decode cX11_call 14 = .ok (.if_icmp .eq 10, 3) := by decide +kernel
theorem eX11_call_17 : decode cX11_call 17 = .ok (.aload_n 0, 1) := by decide +kernel
theorem eX11_call_18 : decode cX11_call 18 = .ok (.bipush (-2), 2) := by decide +kernel
theorem eX11_call_20 : decode cX11_call 20 = .ok (.putfield 578, 3) := by decide +kernel
theorem eX11_call_23 : decode cX11_call 23 = .ok (.return_, 1) := by decide +kernel
theorem eX11_call_24 : decode cX11_call 24 = .ok (.aload_n 0, 1) := by decide +kernel
theorem eX11_call_25 : decode cX11_call 25 = .ok (.getfield 188, 3) := by decide +kernel
theorem eX11_call_28 : decode cX11_call 28 = .ok (.aload_n 0, 1) := by decide +kernel
theorem eX11_call_29 : decode cX11_call 29 = .ok (.getfield 581, 3) := by decide +kernel
theorem eX11_call_32 : decode cX11_call 32 = .ok (.aload_n 0, 1) := by decide +kernel
theorem eX11_call_33 : decode cX11_call 33 = .ok (.getfield 179, 3) := by decide +kernel
theorem eX11_call_36 : decode cX11_call 36 = .ok (.iload_n 2, 1) := by decide +kernel
theorem eX11_call_37 : decode cX11_call 37 = .ok (.iaload, 1) := by decide +kernel
theorem eX11_call_38 : decode cX11_call 38 = .ok (.iastore, 1) := by decide +kernel
theorem eX11_call_39 : decode cX11_call 39 = .ok (.aload_n 0, 1) := by decide +kernel
theorem eX11_call_40 : decode cX11_call 40 = .ok (.getfield 191, 3) := by decide +kernel
theorem eX11_call_43 : decode cX11_call 43 = .ok (.aload_n 0, 1) := by decide +kernel
theorem eX11_call_44 : decode cX11_call 44 = .ok (.getfield 581, 3) := by decide +kernel
theorem eX11_call_47 : decode cX11_call 47 = .ok (.aload_n 0, 1) := by decide +kernel
theorem eX11_call_48 : decode cX11_call 48 = .ok (.getfield 603, 3) := by decide +kernel
theorem eX11_call_51 : decode cX11_call 51 = .ok (.iastore, 1) := by decide +kernel
theorem eX11_call_52 : decode cX11_call 52 = .ok (.aload_n 0, 1) := by decide +kernel
theorem eX11_call_53 : decode cX11_call 53 = .ok (.getfield 194, 3) := by decide +kernel
theorem eX11_call_56 : decode cX11_call 56 = .ok (.aload_n 0, 1) := by decide +kernel
theorem eX11_call_57 : decode cX11_call 57 = .ok (.getfield 581, 3) := by decide +kernel
theorem eX11_call_60 : decode cX11_call 60 = .ok (.aload_n 0, 1) := by decide +kernel
theorem eX11_call_61 : decode cX11_call 61 = .ok (.getfield 182, 3) := by decide +kernel
theorem eX11_call_64 : decode cX11_call 64 = .ok (.iload_n 2, 1) := by decide +kernel
theorem eX11_call_65 : decode cX11_call 65 = .ok (.iaload, 1) := by decide +kernel
theorem eX11_call_66 : decode cX11_call 66 = .ok (.iastore, 1) := by decide +kernel
theorem eX11_call_67 : decode cX11_call 67 = .ok (.aload_n 0, 1) := by decide +kernel
theorem eX11_call_68 : decode cX11_call 68 = .ok (.dup, 1) := by decide +kernel
theorem eX11_call_69 : decode cX11_call 69 = .ok (.getfield 581, 3) := by decide +kernel
theorem eX11_call_72 : decode cX11_call 72 = .ok (.iconst 1, 1) := by decide +kernel
theorem eX11_call_73 : decode cX11_call 73 = .ok (.iadd, 1) := by decide +kernel
theorem eX11_call_74 : decode cX11_call 74 = .ok (.putfield 581, 3) := by decide +kernel
theorem eX11_call_77 : decode cX11_call 77 = .ok (.aload_n 0, 1) := by decide +kernel
theorem eX11_call_78 : decode cX11_call 78 = .ok (.aload_n 0, 1) := by decide +kernel
theorem eX11_call_79 : decode cX11_call 79 = .ok (.getfield 51, 3) := by decide +kernel
theorem eX11_call_82 : decode cX11_call 82 = .ok (.iconst 3, 1) := by decide +kernel
theorem eX11_call_83 : decode cX11_call 83 = .ok (.bipush 40, 2) := by decide +kernel
theorem eX11_call_85 : decode cX11_call 85 = .ok (.aload_n 0, 1) := by decide +kernel
theorem eX11_call_86 : decode cX11_call 86 = .ok (.getfield 321, 3) := by decide +kernel
theorem eX11_call_89 : decode cX11_call 89 = .ok (.imul, 1) := by decide +kernel
theorem eX11_call_90 : decode cX11_call 90 = .ok (.aload_n 0, 1) := by decide +kernel
theorem eX11_call_91 : decode cX11_call 91 = .ok (.getfield 179, 3) := by decide +kernel
theorem eX11_call_94 : decode cX11_call 94 = .ok (.iload_n 2, 1) := by decide +kernel
theorem eX11_call_95 : decode cX11_call 95 = .ok (.iaload, 1) := by decide +kernel
theorem eX11_call_96 : decode cX11_call 96 = .ok (.iadd, 1) := by decide +kernel
theorem eX11_call_97 : decode cX11_call 97 = .ok (.imul, 1) := by decide +kernel
theorem eX11_call_98 : decode cX11_call 98 = .ok (.iaload, 1) := by decide +kernel
theorem eX11_call_99 : decode cX11_call 99 = .ok (.aload_n 0, 1) := by decide +kernel
theorem eX11_call_100 : decode cX11_call 100 = .ok (.getfield 581, 3) := by decide +kernel
theorem eX11_call_103 : decode cX11_call 103 = .ok (.iconst 1, 1) := by decide +kernel
theorem eX11_call_104 : decode cX11_call 104 = .ok (.isub, 1) := by decide +kernel
theorem eX11_call_105 : decode cX11_call 105 = .ok (.invokevirtual 584, 3) := by decide +kernel
theorem eX11_call_108 : decode cX11_call 108 = .ok (.return_, 1) := by decide +kernel
def C_X11_call (s : ST) (p : Int) (Q : ST → Prop) : Prop := bx <| RA s → R32 p → q_met mX11_call (qs layM s) [.ref 139, .int (Int32.ofInt p)] (PV layM Q)
theorem C_X11_call.mono {s : ST} {p : Int} {Q Q' : ST → Prop} (h : C_X11_call s p Q) (hq : ∀ s, Q s → Q' s) : C_X11_call s p Q' := ⟨fun hA hrp => q_met.mono (h.1 hA hrp) (fun _ _ => PV.mono hq), trivial⟩
set_option maxRecDepth 20000 in
theorem s_X11_call {s : ST} {p : Int} {Q : ST → Prop} (h : RA s → R32 p → (((0 : Int) ≤ p ∧ p < 152) ∧ (((0 : Int) ≤ s.1 191 p ∧ s.1 191 p < 4100) ∧ ((s.1 192 (s.1 191 p) = 4 → (((0 : Int) ≤ s.1 139 86 ∧ s.1 139 86 < 4100) ∧ (R32 (s.1 139 86 + 1) ∧ (R32 (40 * s.1 139 28) ∧ (R32 ((40 * s.1 139 28) + s.1 193 (s.1 191 p)) ∧ (R32 (3 * ((40 * s.1 139 28) + s.1 193 (s.1 191 p))) ∧ (((0 : Int) ≤ (3 * ((40 * s.1 139 28) + s.1 193 (s.1 191 p))) ∧ (3 * ((40 * s.1 139 28) + s.1 193 (s.1 191 p))) < 720) ∧ (R32 ((s.1 139 86 + 1) - 1) ∧ (C_X11_works (ui (ui (ui (ui s 196 (s.1 139 86) (s.1 193 (s.1 191 p))) 197 (s.1 139 86) (s.1 139 87)) 198 (s.1 139 86) (s.1 194 (s.1 191 p))) 139 86 (s.1 139 86 + 1)) (s.1 152 (3 * ((40 * s.1 139 28) + s.1 193 (s.1 191 p)))) ((s.1 139 86 + 1) - 1) (fun s10 => Q s10)))))))))) ∧ (¬ s.1 192 (s.1 191 p) = 4 → Q (ui s 139 88 (-2))))))) : C_X11_call s p Q := by
  refine ⟨?_, trivial⟩
  intro hA hrp
  have h := h hA hrp
  refine q_enter (by decide) (Nat.le_of_ble_eq_true rfl) ?_
  refine q_aload_n eX11_call_0 rfl ?_
  refine q_getR (c := 11) (n := 0) (k := 75) (a := 191) eX11_call_1 rfl (by decide) (by decide) fX11_173 rfl rfl ?_
  refine q_iload_n eX11_call_4 rfl ?_
  have f1 := h.1
  have h := h.2
  refine z_iald (n := 152) eX11_call_5 rfl (ofz hrp) f1 ?_
  refine q_topI (v := Int32.ofInt (s.1 191 p)) rfl ?_
  refine q_istore_n eX11_call_6 (Nat.le_of_ble_eq_true rfl) ?_
  refine q_aload_n eX11_call_7 rfl ?_
  refine q_getR (c := 11) (n := 0) (k := 76) (a := 192) eX11_call_8 rfl (by decide) (by decide) fX11_176 rfl rfl ?_
  refine q_iload_n eX11_call_11 rfl ?_
  have f2 := h.1
  have h := h.2
  refine z_iald (n := 4100) eX11_call_12 rfl (ofz (hA _ _)) f2 ?_
  refine q_topI (v := Int32.ofInt (s.1 192 (s.1 191 p))) rfl ?_
  refine q_ic (v := Int32.ofInt 4) eX11_call_13 rfl ?_
  refine q_cz_eq (tgt := 24) (a := s.1 192 (s.1 191 p)) (b := 4) eX11_call_14 (by decide) (ofz (hA _ _)) (ofz (r32l rfl)) (fun c14 => ?_) (fun c14 => ?_)
  · have h := h.1 c14
    refine q_aload_n eX11_call_24 rfl ?_
    refine q_getR (c := 11) (n := 0) (k := 80) (a := 196) eX11_call_25 rfl (by decide) (by decide) fX11_188 rfl rfl ?_
    refine q_aload_n eX11_call_28 rfl ?_
    refine q_getf (c := 11) (n := 0) (k := 86) (v := .int (Int32.ofInt (s.1 139 86))) eX11_call_29 rfl (by decide) (by decide) fX11_581 rfl ?_
    refine q_aload_n eX11_call_32 rfl ?_
    refine q_getR (c := 11) (n := 0) (k := 77) (a := 193) eX11_call_33 rfl (by decide) (by decide) fX11_179 rfl rfl ?_
    refine q_iload_n eX11_call_36 rfl ?_
    refine z_iald (n := 4100) eX11_call_37 rfl (ofz (hA _ _)) f2 ?_
    refine q_topI (v := Int32.ofInt (s.1 193 (s.1 191 p))) rfl ?_
    have f3 := h.1
    have h := h.2
    refine z_iast (n := 4100) eX11_call_38 rfl (ofz (hA _ _)) f3  ?_
    refine q_aload_n eX11_call_39 rfl ?_
    refine q_getR (c := 11) (n := 0) (k := 81) (a := 197) eX11_call_40 rfl (by decide) (by decide) fX11_191 rfl rfl ?_
    refine q_aload_n eX11_call_43 rfl ?_
    refine q_getf (c := 11) (n := 0) (k := 86) (v := .int (Int32.ofInt (s.1 139 86))) eX11_call_44 rfl (by decide) (by decide) fX11_581 rfl ?_
    refine q_aload_n eX11_call_47 rfl ?_
    refine q_getf (c := 11) (n := 0) (k := 87) (v := .int (Int32.ofInt (s.1 139 87))) eX11_call_48 rfl (by decide) (by decide) fX11_603 rfl ?_
    refine z_iast (n := 4100) eX11_call_51 rfl (ofz (hA _ _)) f3  ?_
    refine q_aload_n eX11_call_52 rfl ?_
    refine q_getR (c := 11) (n := 0) (k := 82) (a := 198) eX11_call_53 rfl (by decide) (by decide) fX11_194 rfl rfl ?_
    refine q_aload_n eX11_call_56 rfl ?_
    refine q_getf (c := 11) (n := 0) (k := 86) (v := .int (Int32.ofInt (s.1 139 86))) eX11_call_57 rfl (by decide) (by decide) fX11_581 rfl ?_
    refine q_aload_n eX11_call_60 rfl ?_
    refine q_getR (c := 11) (n := 0) (k := 78) (a := 194) eX11_call_61 rfl (by decide) (by decide) fX11_182 rfl rfl ?_
    refine q_iload_n eX11_call_64 rfl ?_
    refine z_iald (n := 4100) eX11_call_65 rfl (ofz (hA _ _)) f2 ?_
    refine q_topI (v := Int32.ofInt (s.1 194 (s.1 191 p))) rfl ?_
    refine z_iast (n := 4100) eX11_call_66 rfl (ofz (hA _ _)) f3  ?_
    refine q_aload_n eX11_call_67 rfl ?_
    refine q_dup eX11_call_68 rfl ?_
    refine q_getf (c := 11) (n := 0) (k := 86) (v := .int (Int32.ofInt (s.1 139 86))) eX11_call_69 rfl (by decide) (by decide) fX11_581 rfl ?_
    refine q_ic (v := Int32.ofInt 1) eX11_call_72 rfl ?_
    refine z_iadd eX11_call_73 ?_
    have r4 := h.1
    have h := h.2
    refine z_putI (c := 11) (n := 0) (k := 86) (kz := 86) eX11_call_74 rfl (by decide) (by decide) fX11_581 rfl rfl rfl ?_
    refine q_aload_n eX11_call_77 rfl ?_
    refine q_aload_n eX11_call_78 rfl ?_
    refine q_getR (c := 11) (n := 0) (k := 21) (a := 152) eX11_call_79 rfl (by decide) (by decide) fX11_51 rfl rfl ?_
    refine q_ic (v := Int32.ofInt 3) eX11_call_82 rfl ?_
    refine q_bi (v := Int32.ofInt 40) eX11_call_83 rfl ?_
    refine q_aload_n eX11_call_85 rfl ?_
    refine q_getf (c := 11) (n := 0) (k := 28) (v := .int (Int32.ofInt (s.1 139 28))) eX11_call_86 rfl (by decide) (by decide) fX11_321 rfl ?_
    refine z_imul eX11_call_89 ?_
    have r5 := h.1
    have h := h.2
    refine q_aload_n eX11_call_90 rfl ?_
    refine q_getR (c := 11) (n := 0) (k := 77) (a := 193) eX11_call_91 rfl (by decide) (by decide) fX11_179 rfl rfl ?_
    refine q_iload_n eX11_call_94 rfl ?_
    refine z_iald (n := 4100) eX11_call_95 rfl (ofz (hA _ _)) f2 ?_
    refine q_topI (v := Int32.ofInt (s.1 193 (s.1 191 p))) rfl ?_
    refine z_iadd eX11_call_96 ?_
    have r6 := h.1
    have h := h.2
    refine z_imul eX11_call_97 ?_
    have r7 := h.1
    have h := h.2
    have f8 := h.1
    have h := h.2
    refine z_iald (n := 720) eX11_call_98 rfl (ofz r7) f8 ?_
    refine q_topI (v := Int32.ofInt (s.1 152 (3 * ((40 * s.1 139 28) + s.1 193 (s.1 191 p))))) rfl ?_
    refine q_aload_n eX11_call_99 rfl ?_
    refine q_getf (c := 11) (n := 0) (k := 86) (v := .int (Int32.ofInt (s.1 139 86 + 1))) eX11_call_100 rfl (by decide) (by decide) fX11_581 rfl ?_
    refine q_ic (v := Int32.ofInt 1) eX11_call_103 rfl ?_
    refine z_isub eX11_call_104 ?_
    have r9 := h.1
    have h := h.2
    refine q_V2 (ci := 11) (n := 0) eX11_call_105 DX11_works lX11_584 rfl (by decide) rfl rfl rfl rfl (h.1 (ra_ui (ra_ui (ra_ui (ra_ui hA (hA _ _)) (hA _ _)) (hA _ _)) r4) (hA _ _) r9) ?_
    rintro _ _ ⟨s10, rfl, hA10, rfl, h⟩
    exact q_ret eX11_call_108 rfl ⟨_, rfl, hA10, rfl, h⟩
  · have h := h.2 c14
    refine q_aload_n eX11_call_17 rfl ?_
    refine q_bi (v := Int32.ofInt (-2)) eX11_call_18 rfl ?_
    refine z_putI (c := 11) (n := 0) (k := 88) (kz := 88) eX11_call_20 rfl (by decide) (by decide) fX11_578 rfl rfl rfl ?_
    exact q_ret eX11_call_23 rfl ⟨_, rfl, (ra_ui hA (r32l rfl)), rfl, h⟩
theorem eX11_doOne_0 : decode cX11_doOne 0 = .ok (.iload_n 1, 1) := by decide +kernel
theorem eX11_doOne_1 : decode cX11_doOne 1 = .ok (.bipush 8, 2) := by decide +kernel
theorem eX11_doOne_3 : decode cX11_doOne 3 = .ok (.if_icmp .eq 9, 3) := by decide +kernel
theorem eX11_doOne_6 : decode cX11_doOne 6 = .ok (.iload_n 1, 1) := by decide +kernel
theorem eX11_doOne_7 : decode cX11_doOne 7 = .ok (.bipush 9, 2) := by decide +kernel
theorem eX11_doOne_9 : decode cX11_doOne 9 = .ok (.if_icmp .ne 7, 3) := by decide +kernel
theorem eX11_doOne_12 : decode cX11_doOne 12 = .ok (.iconst 1, 1) := by decide +kernel
theorem eX11_doOne_13 : decode cX11_doOne 13 = .ok (.goto 4, 3) := by decide +kernel
theorem eX11_doOne_16 : decode cX11_doOne 16 = .ok (.iconst 0, 1) := by decide +kernel
theorem eX11_doOne_17 : decode cX11_doOne 17 = .ok (.istore_n 2, 1) := by decide +kernel
theorem eX11_doOne_18 : decode cX11_doOne 18 = .ok (.aload_n 0, 1) := by decide +kernel
theorem eX11_doOne_19 : decode cX11_doOne 19 = .ok (.getfield 176, 3) := by decide +kernel
theorem eX11_doOne_22 : decode cX11_doOne 22 = .ok (.aload_n 0, 1) := by decide +kernel
theorem eX11_doOne_23 : decode cX11_doOne 23 = .ok (.getfield 603, 3) := by decide +kernel
theorem eX11_doOne_26 : decode cX11_doOne 26 = .ok (.iaload, 1) := by decide +kernel
theorem eX11_doOne_27 : decode cX11_doOne 27 = .ok (.iload_n 2, 1) := by decide +kernel
theorem eX11_doOne_28 : decode cX11_doOne 28 = .ok (.ifCond .eq 7, 3) := by decide +kernel
theorem eX11_doOne_31 : decode cX11_doOne 31 = .ok (.iconst 3, 1) := by decide +kernel
theorem eX11_doOne_32 : decode cX11_doOne 32 = .ok (.goto 4, 3) := by decide +kernel
theorem eX11_doOne_35 : decode cX11_doOne 35 = .ok (.iconst 2, 1) := by decide +kernel
theorem eX11_doOne_36 : decode cX11_doOne 36 = .ok (.if_icmp .eq 12, 3) := by decide +kernel
theorem eX11_doOne_39 : decode cX11_doOne 39 = .ok (.aload_n 0, 1) := by decide +kernel
theorem eX11_doOne_40 : decode cX11_doOne 40 = .ok (.bipush (-2), 2) := by decide +kernel
theorem eX11_doOne_42 : decode cX11_doOne 42 = .ok (.putfield 578, 3) := by decide +kernel
theorem eX11_doOne_45 : decode cX11_doOne 45 = .ok (.goto 65, 3) := by decide +kernel
theorem eX11_doOne_48 : decode cX11_doOne 48 = .ok (.iload_n 2, 1) := by decide +kernel
theorem eX11_doOne_49 : decode cX11_doOne 49 = .ok (.ifCond .ne 24, 3) := by decide +kernel
theorem eX11_doOne_52 : decode cX11_doOne 52 = .ok (.aload_n 0, 1) := by decide +kernel
theorem eX11_doOne_53 : decode cX11_doOne 53 = .ok (.getfield 179, 3) := by decide +kernel
theorem eX11_doOne_56 : decode cX11_doOne 56 = .ok (.aload_n 0, 1) := by decide +kernel
theorem eX11_doOne_57 : decode cX11_doOne 57 = .ok (.getfield 603, 3) := by decide +kernel
theorem eX11_doOne_60 : decode cX11_doOne 60 = .ok (.iaload, 1) := by decide +kernel
theorem eX11_doOne_61 : decode cX11_doOne 61 = .ok (.ifCond .ne 12, 3) := by decide +kernel
theorem eX11_doOne_64 : decode cX11_doOne 64 = .ok (.aload_n 0, 1) := by decide +kernel
theorem eX11_doOne_65 : decode cX11_doOne 65 = .ok (.bipush (-3), 2) := by decide +kernel
theorem eX11_doOne_67 : decode cX11_doOne 67 = .ok (.putfield 578, 3) := by decide +kernel
theorem eX11_doOne_70 : decode cX11_doOne 70 = .ok (.goto 40, 3) := by decide +kernel
theorem eX11_doOne_73 : decode cX11_doOne 73 = .ok (.aload_n 0, 1) := by decide +kernel
theorem eX11_doOne_74 : decode cX11_doOne 74 = .ok (.iload_n 1, 1) := by decide +kernel
theorem eX11_doOne_75 : decode cX11_doOne 75 = .ok (.bipush 8, 2) := by decide +kernel
theorem eX11_doOne_77 : decode cX11_doOne 77 = .ok (.if_icmp .eq 9, 3) := by decide +kernel
theorem eX11_doOne_80 : decode cX11_doOne 80 = .ok (.iload_n 1, 1) := by decide +kernel
theorem eX11_doOne_81 : decode cX11_doOne 81 = .ok (.bipush 12, 2) := by decide +kernel
theorem eX11_doOne_83 : decode cX11_doOne 83 = .ok (.if_icmp .ne 15, 3) := by decide +kernel
theorem eX11_doOne_86 : decode cX11_doOne 86 = .ok (.aload_n 0, 1) := by decide +kernel
theorem eX11_doOne_87 : decode cX11_doOne 87 = .ok (.getfield 182, 3) := by decide +kernel
theorem eX11_doOne_90 : decode cX11_doOne 90 = .ok (.aload_n 0, 1) := by decide +kernel
theorem eX11_doOne_91 : decode cX11_doOne 91 = .ok (.getfield 603, 3) := by decide +kernel
theorem eX11_doOne_94 : decode cX11_doOne 94 = .ok (.iaload, 1) := by decide +kernel
theorem eX11_doOne_95 : decode cX11_doOne 95 = .ok (.goto 12, 3) := by decide +kernel
theorem eX11_doOne_98 : decode cX11_doOne 98 = .ok (.aload_n 0, 1) := by decide +kernel
theorem eX11_doOne_99 : decode cX11_doOne 99 = .ok (.getfield 185, 3) := by decide +kernel
theorem eX11_doOne_102 : decode cX11_doOne 102 = .ok (.aload_n 0, 1) := by decide +kernel
theorem eX11_doOne_103 : decode cX11_doOne 103 = .ok (.getfield 603, 3) := by decide +kernel
theorem eX11_doOne_106 : decode cX11_doOne 106 = .ok (.iaload, 1) := by decide +kernel
theorem eX11_doOne_107 : decode cX11_doOne 107 = .ok (.invokevirtual 597, 3) := by decide +kernel
theorem eX11_doOne_110 : decode cX11_doOne 110 = .ok (.return_, 1) := by decide +kernel
def C_X11_doOne (s : ST) (p : Int) (Q : ST → Prop) : Prop := bx <| RA s → R32 p → q_met mX11_doOne (qs layM s) [.ref 139, .int (Int32.ofInt p)] (PV layM Q)
theorem C_X11_doOne.mono {s : ST} {p : Int} {Q Q' : ST → Prop} (h : C_X11_doOne s p Q) (hq : ∀ s, Q s → Q' s) : C_X11_doOne s p Q' := ⟨fun hA hrp => q_met.mono (h.1 hA hrp) (fun _ _ => PV.mono hq), trivial⟩
def K_X11_doOne_107 (s : ST) (t1 : Int) (Q : ST → Prop) : Prop := bx <| RA s → R32 t1 → q_K mX11_doOne (qs layM s) 0 0 107 [] [.int (Int32.ofInt t1), .ref 139] (q_fin mX11_doOne (PV layM Q))
def K_X11_doOne_86 (s : ST) (Q : ST → Prop) : Prop := bx <| RA s → q_K mX11_doOne (qs layM s) 0 0 86 [(0, .ref 139)] [.ref 139] (q_fin mX11_doOne (PV layM Q))
def K_X11_doOne_73 (s : ST) (a1 : Int) (Q : ST → Prop) : Prop := bx <| RA s → R32 a1 → q_K mX11_doOne (qs layM s) 0 0 73 [(0, .ref 139), (1, .int (Int32.ofInt a1))] [] (q_fin mX11_doOne (PV layM Q))
def K_X11_doOne_36 (s : ST) (a1 : Int) (a2 : Int) (t0 : Int) (t1 : Int) (Q : ST → Prop) : Prop := bx <| RA s → R32 a1 → R32 a2 → R32 t0 → R32 t1 → q_K mX11_doOne (qs layM s) 0 0 36 [(0, .ref 139), (1, .int (Int32.ofInt a1)), (2, .int (Int32.ofInt a2))] [.int (Int32.ofInt t1), .int (Int32.ofInt t0)] (q_fin mX11_doOne (PV layM Q))
def K_X11_doOne_17 (s : ST) (a1 : Int) (t0 : Int) (Q : ST → Prop) : Prop := bx <| RA s → R32 a1 → R32 t0 → q_K mX11_doOne (qs layM s) 0 0 17 [(0, .ref 139), (1, .int (Int32.ofInt a1))] [.int (Int32.ofInt t0)] (q_fin mX11_doOne (PV layM Q))
def K_X11_doOne_12 (s : ST) (a1 : Int) (Q : ST → Prop) : Prop := bx <| RA s → R32 a1 → q_K mX11_doOne (qs layM s) 0 0 12 [(0, .ref 139), (1, .int (Int32.ofInt a1))] [] (q_fin mX11_doOne (PV layM Q))
set_option maxRecDepth 20000 in
theorem s_X11_doOne_107 {s : ST} {t1 : Int} {Q : ST → Prop} (h : RA s → R32 t1 → (C_X11_gives s t1 (fun s1 => Q s1))) : K_X11_doOne_107 s t1 Q := by
  refine ⟨?_, trivial⟩
  intro hA hrt1
  have h := h hA hrt1
  refine q_V1 (ci := 11) (n := 0) eX11_doOne_107 DX11_gives lX11_597 rfl (by decide) rfl rfl rfl rfl (h.1 hA hrt1) ?_
  rintro _ _ ⟨s1, rfl, hA1, rfl, h⟩
  exact q_ret eX11_doOne_110 rfl ⟨_, rfl, hA1, rfl, h⟩
set_option maxRecDepth 20000 in
theorem s_X11_doOne_86 {s : ST} {Q : ST → Prop} (h : RA s → (((0 : Int) ≤ s.1 139 87 ∧ s.1 139 87 < 4100) ∧ K_X11_doOne_107 s (s.1 194 (s.1 139 87)) Q)) : K_X11_doOne_86 s Q := by
  refine ⟨?_, trivial⟩
  intro hA
  have h := h hA
  refine q_aload_n eX11_doOne_86 rfl ?_
  refine q_getR (c := 11) (n := 0) (k := 78) (a := 194) eX11_doOne_87 rfl (by decide) (by decide) fX11_182 rfl rfl ?_
  refine q_aload_n eX11_doOne_90 rfl ?_
  refine q_getf (c := 11) (n := 0) (k := 87) (v := .int (Int32.ofInt (s.1 139 87))) eX11_doOne_91 rfl (by decide) (by decide) fX11_603 rfl ?_
  have f1 := h.1
  have h := h.2
  refine z_iald (n := 4100) eX11_doOne_94 rfl (ofz (hA _ _)) f1 ?_
  refine q_topI (v := Int32.ofInt (s.1 194 (s.1 139 87))) rfl ?_
  refine q_goto (tgt := 107) eX11_doOne_95 (by decide) ?_
  exact q_subL rfl (h.1 hA (hA _ _))
set_option maxRecDepth 20000 in
theorem s_X11_doOne_73 {s : ST} {a1 : Int} {Q : ST → Prop} (h : RA s → R32 a1 → ((a1 = 8 → K_X11_doOne_86 s Q) ∧ (¬ a1 = 8 → ((¬ a1 = 12 → (((0 : Int) ≤ s.1 139 87 ∧ s.1 139 87 < 4100) ∧ K_X11_doOne_107 s (s.1 195 (s.1 139 87)) Q)) ∧ (a1 = 12 → K_X11_doOne_86 s Q))))) : K_X11_doOne_73 s a1 Q := by
  refine ⟨?_, trivial⟩
  intro hA hra1
  have h := h hA hra1
  refine q_aload_n eX11_doOne_73 rfl ?_
  refine q_iload_n eX11_doOne_74 rfl ?_
  refine q_bi (v := Int32.ofInt 8) eX11_doOne_75 rfl ?_
  refine q_cz_eq (tgt := 86) (a := a1) (b := 8) eX11_doOne_77 (by decide) (ofz hra1) (ofz (r32l rfl)) (fun c77 => ?_) (fun c77 => ?_)
  · have h := h.1 c77
    exact q_subL rfl (h.1 hA)
  · have h := h.2 c77
    refine q_iload_n eX11_doOne_80 rfl ?_
    refine q_bi (v := Int32.ofInt 12) eX11_doOne_81 rfl ?_
    refine q_cz_ne (tgt := 98) (a := a1) (b := 12) eX11_doOne_83 (by decide) (ofz hra1) (ofz (r32l rfl)) (fun c83 => ?_) (fun c83 => ?_)
    · have h := h.1 c83
      refine q_aload_n eX11_doOne_98 rfl ?_
      refine q_getR (c := 11) (n := 0) (k := 79) (a := 195) eX11_doOne_99 rfl (by decide) (by decide) fX11_185 rfl rfl ?_
      refine q_aload_n eX11_doOne_102 rfl ?_
      refine q_getf (c := 11) (n := 0) (k := 87) (v := .int (Int32.ofInt (s.1 139 87))) eX11_doOne_103 rfl (by decide) (by decide) fX11_603 rfl ?_
      have f1 := h.1
      have h := h.2
      refine z_iald (n := 4100) eX11_doOne_106 rfl (ofz (hA _ _)) f1 ?_
      refine q_topI (v := Int32.ofInt (s.1 195 (s.1 139 87))) rfl ?_
      exact q_subL rfl (h.1 hA (hA _ _))
    · have h := h.2 c83
      exact q_subL rfl (h.1 hA)
set_option maxRecDepth 20000 in
theorem s_X11_doOne_36 {s : ST} {a1 : Int} {a2 : Int} {t0 : Int} {t1 : Int} {Q : ST → Prop} (h : RA s → R32 a1 → R32 a2 → R32 t0 → R32 t1 → ((t0 = t1 → ((¬ a2 = 0 → K_X11_doOne_73 s a1 Q) ∧ (a2 = 0 → (((0 : Int) ≤ s.1 139 87 ∧ s.1 139 87 < 4100) ∧ ((¬ s.1 193 (s.1 139 87) = 0 → K_X11_doOne_73 s a1 Q) ∧ (s.1 193 (s.1 139 87) = 0 → Q (ui s 139 88 (-3)))))))) ∧ (¬ t0 = t1 → Q (ui s 139 88 (-2))))) : K_X11_doOne_36 s a1 a2 t0 t1 Q := by
  refine ⟨?_, trivial⟩
  intro hA hra1 hra2 hrt0 hrt1
  have h := h hA hra1 hra2 hrt0 hrt1
  refine q_cz_eq (tgt := 48) (a := t0) (b := t1) eX11_doOne_36 (by decide) (ofz hrt0) (ofz hrt1) (fun c36 => ?_) (fun c36 => ?_)
  · have h := h.1 c36
    refine q_iload_n eX11_doOne_48 rfl ?_
    refine q_iz_ne (tgt := 73) (a := a2) eX11_doOne_49 (by decide) (ofz hra2) (fun c49 => ?_) (fun c49 => ?_)
    · have h := h.1 c49
      exact q_subL rfl (h.1 hA hra1)
    · have h := h.2 c49
      refine q_aload_n eX11_doOne_52 rfl ?_
      refine q_getR (c := 11) (n := 0) (k := 77) (a := 193) eX11_doOne_53 rfl (by decide) (by decide) fX11_179 rfl rfl ?_
      refine q_aload_n eX11_doOne_56 rfl ?_
      refine q_getf (c := 11) (n := 0) (k := 87) (v := .int (Int32.ofInt (s.1 139 87))) eX11_doOne_57 rfl (by decide) (by decide) fX11_603 rfl ?_
      have f1 := h.1
      have h := h.2
      refine z_iald (n := 4100) eX11_doOne_60 rfl (ofz (hA _ _)) f1 ?_
      refine q_topI (v := Int32.ofInt (s.1 193 (s.1 139 87))) rfl ?_
      refine q_iz_ne (tgt := 73) (a := s.1 193 (s.1 139 87)) eX11_doOne_61 (by decide) (ofz (hA _ _)) (fun c61 => ?_) (fun c61 => ?_)
      · have h := h.1 c61
        exact q_subL rfl (h.1 hA hra1)
      · have h := h.2 c61
        refine q_aload_n eX11_doOne_64 rfl ?_
        refine q_bi (v := Int32.ofInt (-3)) eX11_doOne_65 rfl ?_
        refine z_putI (c := 11) (n := 0) (k := 88) (kz := 88) eX11_doOne_67 rfl (by decide) (by decide) fX11_578 rfl rfl rfl ?_
        refine q_goto (tgt := 110) eX11_doOne_70 (by decide) ?_
        exact q_ret eX11_doOne_110 rfl ⟨_, rfl, (ra_ui hA (r32l rfl)), rfl, h⟩
  · have h := h.2 c36
    refine q_aload_n eX11_doOne_39 rfl ?_
    refine q_bi (v := Int32.ofInt (-2)) eX11_doOne_40 rfl ?_
    refine z_putI (c := 11) (n := 0) (k := 88) (kz := 88) eX11_doOne_42 rfl (by decide) (by decide) fX11_578 rfl rfl rfl ?_
    refine q_goto (tgt := 110) eX11_doOne_45 (by decide) ?_
    exact q_ret eX11_doOne_110 rfl ⟨_, rfl, (ra_ui hA (r32l rfl)), rfl, h⟩
set_option maxRecDepth 20000 in
theorem s_X11_doOne_17 {s : ST} {a1 : Int} {t0 : Int} {Q : ST → Prop} (h : RA s → R32 a1 → R32 t0 → (((0 : Int) ≤ s.1 139 87 ∧ s.1 139 87 < 4100) ∧ ((t0 = 0 → K_X11_doOne_36 s a1 t0 (s.1 192 (s.1 139 87)) 2 Q) ∧ (¬ t0 = 0 → K_X11_doOne_36 s a1 t0 (s.1 192 (s.1 139 87)) 3 Q)))) : K_X11_doOne_17 s a1 t0 Q := by
  refine ⟨?_, trivial⟩
  intro hA hra1 hrt0
  have h := h hA hra1 hrt0
  refine q_istore_n eX11_doOne_17 (Nat.le_of_ble_eq_true rfl) ?_
  refine q_aload_n eX11_doOne_18 rfl ?_
  refine q_getR (c := 11) (n := 0) (k := 76) (a := 192) eX11_doOne_19 rfl (by decide) (by decide) fX11_176 rfl rfl ?_
  refine q_aload_n eX11_doOne_22 rfl ?_
  refine q_getf (c := 11) (n := 0) (k := 87) (v := .int (Int32.ofInt (s.1 139 87))) eX11_doOne_23 rfl (by decide) (by decide) fX11_603 rfl ?_
  have f1 := h.1
  have h := h.2
  refine z_iald (n := 4100) eX11_doOne_26 rfl (ofz (hA _ _)) f1 ?_
  refine q_topI (v := Int32.ofInt (s.1 192 (s.1 139 87))) rfl ?_
  refine q_iload_n eX11_doOne_27 rfl ?_
  refine q_iz_eq (tgt := 35) (a := t0) eX11_doOne_28 (by decide) (ofz hrt0) (fun c28 => ?_) (fun c28 => ?_)
  · have h := h.1 c28
    refine q_ic (v := Int32.ofInt 2) eX11_doOne_35 rfl ?_
    exact q_subL rfl (h.1 hA hra1 hrt0 (hA _ _) (r32l rfl))
  · have h := h.2 c28
    refine q_ic (v := Int32.ofInt 3) eX11_doOne_31 rfl ?_
    refine q_goto (tgt := 36) eX11_doOne_32 (by decide) ?_
    exact q_subL rfl (h.1 hA hra1 hrt0 (hA _ _) (r32l rfl))
set_option maxRecDepth 20000 in
theorem s_X11_doOne_12 {s : ST} {a1 : Int} {Q : ST → Prop} (h : RA s → R32 a1 → K_X11_doOne_17 s a1 1 Q) : K_X11_doOne_12 s a1 Q := by
  refine ⟨?_, trivial⟩
  intro hA hra1
  have h := h hA hra1
  refine q_ic (v := Int32.ofInt 1) eX11_doOne_12 rfl ?_
  refine q_goto (tgt := 17) eX11_doOne_13 (by decide) ?_
  exact q_subL rfl (h.1 hA hra1 (r32l rfl))
set_option maxRecDepth 20000 in
theorem s_X11_doOne {s : ST} {p : Int} {Q : ST → Prop} (h : RA s → R32 p → ((p = 8 → K_X11_doOne_12 s p Q) ∧ (¬ p = 8 → ((¬ p = 9 → K_X11_doOne_17 s p 0 Q) ∧ (p = 9 → K_X11_doOne_12 s p Q))))) : C_X11_doOne s p Q := by
  refine ⟨?_, trivial⟩
  intro hA hrp
  have h := h hA hrp
  refine q_enter (by decide) (Nat.le_of_ble_eq_true rfl) ?_
  refine q_iload_n eX11_doOne_0 rfl ?_
  refine q_bi (v := Int32.ofInt 8) eX11_doOne_1 rfl ?_
  refine q_cz_eq (tgt := 12) (a := p) (b := 8) eX11_doOne_3 (by decide) (ofz hrp) (ofz (r32l rfl)) (fun c3 => ?_) (fun c3 => ?_)
  · have h := h.1 c3
    exact q_subL rfl (h.1 hA hrp)
  · have h := h.2 c3
    refine q_iload_n eX11_doOne_6 rfl ?_
    refine q_bi (v := Int32.ofInt 9) eX11_doOne_7 rfl ?_
    refine q_cz_ne (tgt := 16) (a := p) (b := 9) eX11_doOne_9 (by decide) (ofz hrp) (ofz (r32l rfl)) (fun c9 => ?_) (fun c9 => ?_)
    · have h := h.1 c9
      refine q_ic (v := Int32.ofInt 0) eX11_doOne_16 rfl ?_
      exact q_subL rfl (h.1 hA hrp (r32l rfl))
    · have h := h.2 c9
      exact q_subL rfl (h.1 hA hrp)
theorem eX11_doTwo_0 : decode cX11_doTwo 0 = .ok (.iload_n 1, 1) := by decide +kernel
theorem eX11_doTwo_1 : decode cX11_doTwo 1 = .ok (.bipush 7, 2) := by decide +kernel
theorem eX11_doTwo_3 : decode cX11_doTwo 3 = .ok (.if_icmp .ne 18, 3) := by decide +kernel
theorem eX11_doTwo_6 : decode cX11_doTwo 6 = .ok (.aload_n 0, 1) := by decide +kernel
theorem eX11_doTwo_7 : decode cX11_doTwo 7 = .ok (.aload_n 0, 1) := by decide +kernel
theorem eX11_doTwo_8 : decode cX11_doTwo 8 = .ok (.iconst 3, 1) := by decide +kernel
theorem eX11_doTwo_9 : decode cX11_doTwo 9 = .ok (.iconst 0, 1) := by decide +kernel
theorem eX11_doTwo_10 : decode cX11_doTwo 10 = .ok (.iload_n 2, 1) := by decide +kernel
theorem eX11_doTwo_11 : decode cX11_doTwo 11 = .ok (.iload_n 3, 1) := by decide +kernel
theorem eX11_doTwo_12 : decode cX11_doTwo 12 = .ok (.invokevirtual 594, 3) := by decide +kernel
theorem eX11_doTwo_15 : decode cX11_doTwo 15 = .ok (.invokevirtual 597, 3) := by decide +kernel
theorem eX11_doTwo_18 : decode cX11_doTwo 18 = .ok (.goto 137, 3) := by decide +kernel
theorem eX11_doTwo_21 : decode cX11_doTwo 21 = .ok (.iload_n 1, 1) := by decide +kernel
theorem eX11_doTwo_22 : decode cX11_doTwo 22 = .ok (.bipush 11, 2) := by decide +kernel
theorem eX11_doTwo_24 : decode cX11_doTwo 24 = .ok (.if_icmp .ne 44, 3) := by decide +kernel
theorem eX11_doTwo_27 : decode cX11_doTwo 27 = .ok (.aload_n 0, 1) := by decide +kernel
theorem eX11_doTwo_28 : decode cX11_doTwo 28 = .ok (.getfield 176, 3) := by decide +kernel
theorem eX11_doTwo_31 : decode cX11_doTwo 31 = .ok (.iload_n 3, 1) := by decide +kernel
theorem eX11_doTwo_32 : decode cX11_doTwo 32 = .ok (.iaload, 1) := by decide +kernel
theorem eX11_doTwo_33 : decode cX11_doTwo 33 = .ok (.iconst 2, 1) := by decide +kernel
theorem eX11_doTwo_34 : decode cX11_doTwo 34 = .ok (.if_icmp .eq 12, 3) := by decide +kernel
theorem eX11_doTwo_37 : decode cX11_doTwo 37 = .ok (.aload_n 0, 1) := by decide +kernel
theorem eX11_doTwo_38 : decode cX11_doTwo 38 = .ok (.bipush (-2), 2) := by decide +kernel
theorem eX11_doTwo_40 : decode cX11_doTwo 40 = .ok (.putfield 578, 3) := by decide +kernel
theorem eX11_doTwo_43 : decode cX11_doTwo 43 = .ok (.goto 112, 3) := by decide +kernel
theorem eX11_doTwo_46 : decode cX11_doTwo 46 = .ok (.aload_n 0, 1) := by decide +kernel
theorem eX11_doTwo_47 : decode cX11_doTwo 47 = .ok (.aload_n 0, 1) := by decide +kernel
theorem eX11_doTwo_48 : decode cX11_doTwo 48 = .ok (.iconst 2, 1) := by decide +kernel
theorem eX11_doTwo_49 : decode cX11_doTwo 49 = .ok (.aload_n 0, 1) := by decide +kernel
theorem eX11_doTwo_50 : decode cX11_doTwo 50 = .ok (.getfield 179, 3) := by decide +kernel
theorem eX11_doTwo_53 : decode cX11_doTwo 53 = .ok (.iload_n 3, 1) := by decide +kernel
theorem eX11_doTwo_54 : decode cX11_doTwo 54 = .ok (.iaload, 1) := by decide +kernel
theorem eX11_doTwo_55 : decode cX11_doTwo 55 = .ok (.iconst 1, 1) := by decide +kernel
theorem eX11_doTwo_56 : decode cX11_doTwo 56 = .ok (.iadd, 1) := by decide +kernel
theorem eX11_doTwo_57 : decode cX11_doTwo 57 = .ok (.iload_n 2, 1) := by decide +kernel
theorem eX11_doTwo_58 : decode cX11_doTwo 58 = .ok (.iload_n 3, 1) := by decide +kernel
theorem eX11_doTwo_59 : decode cX11_doTwo 59 = .ok (.invokevirtual 594, 3) := by decide +kernel
theorem eX11_doTwo_62 : decode cX11_doTwo 62 = .ok (.invokevirtual 597, 3) := by decide +kernel
theorem eX11_doTwo_65 : decode cX11_doTwo 65 = .ok (.goto 90, 3) := by decide +kernel
theorem eX11_doTwo_68 : decode cX11_doTwo 68 = .ok (.aload_n 0, 1) := by decide +kernel
theorem eX11_doTwo_69 : decode cX11_doTwo 69 = .ok (.getfield 176, 3) := by decide +kernel
theorem eX11_doTwo_72 : decode cX11_doTwo 72 = .ok (.iload_n 2, 1) := by decide +kernel
theorem eX11_doTwo_73 : decode cX11_doTwo 73 = .ok (.iaload, 1) := by decide +kernel
theorem eX11_doTwo_74 : decode cX11_doTwo 74 = .ok (.ifCond .ne 12, 3) := by decide +kernel
theorem eX11_doTwo_77 : decode cX11_doTwo 77 = .ok (.aload_n 0, 1) := by decide +kernel
theorem eX11_doTwo_78 : decode cX11_doTwo 78 = .ok (.getfield 176, 3) := by decide +kernel
theorem eX11_doTwo_81 : decode cX11_doTwo 81 = .ok (.iload_n 3, 1) := by decide +kernel
theorem eX11_doTwo_82 : decode cX11_doTwo 82 = .ok (.iaload, 1) := by decide +kernel
theorem eX11_doTwo_83 : decode cX11_doTwo 83 = .ok (.ifCond .eq 12, 3) := by decide +kernel
theorem eX11_doTwo_86 : decode cX11_doTwo 86 = .ok (.aload_n 0, 1) := by decide +kernel
theorem eX11_doTwo_87 : decode cX11_doTwo 87 = .ok (.bipush (-2), 2) := by decide +kernel
theorem eX11_doTwo_89 : decode cX11_doTwo 89 = .ok (.putfield 578, 3) := by decide +kernel
theorem eX11_doTwo_92 : decode cX11_doTwo 92 = .ok (.goto 63, 3) := by decide +kernel
theorem eX11_doTwo_95 : decode cX11_doTwo 95 = .ok (.aload_n 0, 1) := by decide +kernel
theorem eX11_doTwo_96 : decode cX11_doTwo 96 = .ok (.iload_n 1, 1) := by decide +kernel
theorem eX11_doTwo_97 : decode cX11_doTwo 97 = .ok (.bipush 14, 2) := by decide +kernel
theorem eX11_doTwo_99 : decode cX11_doTwo 99 = .ok (.if_icmp .ne 26, 3) := by decide +kernel
theorem eX11_doTwo_102 : decode cX11_doTwo 102 = .ok (.aload_n 0, 1) := by decide +kernel
theorem eX11_doTwo_103 : decode cX11_doTwo 103 = .ok (.iconst 0, 1) := by decide +kernel
theorem eX11_doTwo_104 : decode cX11_doTwo 104 = .ok (.aload_n 0, 1) := by decide +kernel
theorem eX11_doTwo_105 : decode cX11_doTwo 105 = .ok (.getfield 179, 3) := by decide +kernel
theorem eX11_doTwo_108 : decode cX11_doTwo 108 = .ok (.iload_n 2, 1) := by decide +kernel
theorem eX11_doTwo_109 : decode cX11_doTwo 109 = .ok (.iaload, 1) := by decide +kernel
theorem eX11_doTwo_110 : decode cX11_doTwo 110 = .ok (.aload_n 0, 1) := by decide +kernel
theorem eX11_doTwo_111 : decode cX11_doTwo 111 = .ok (.getfield 179, 3) := by decide +kernel
theorem eX11_doTwo_114 : decode cX11_doTwo 114 = .ok (.iload_n 3, 1) := by decide +kernel
theorem eX11_doTwo_115 : decode cX11_doTwo 115 = .ok (.iaload, 1) := by decide +kernel
theorem eX11_doTwo_116 : decode cX11_doTwo 116 = .ok (.iadd, 1) := by decide +kernel
theorem eX11_doTwo_117 : decode cX11_doTwo 117 = .ok (.iconst (-1), 1) := by decide +kernel
theorem eX11_doTwo_118 : decode cX11_doTwo 118 = .ok (.iconst (-1), 1) := by decide +kernel
theorem eX11_doTwo_119 : decode cX11_doTwo 119 = .ok (.invokevirtual 594, 3) := by decide +kernel
theorem eX11_doTwo_122 : decode cX11_doTwo 122 = .ok (.goto 30, 3) := by decide +kernel
theorem eX11_doTwo_125 : decode cX11_doTwo 125 = .ok (.aload_n 0, 1) := by decide +kernel
theorem eX11_doTwo_126 : decode cX11_doTwo 126 = .ok (.iconst 1, 1) := by decide +kernel
theorem eX11_doTwo_127 : decode cX11_doTwo 127 = .ok (.aload_n 0, 1) := by decide +kernel
theorem eX11_doTwo_128 : decode cX11_doTwo 128 = .ok (.getfield 179, 3) := by decide +kernel
theorem eX11_doTwo_131 : decode cX11_doTwo 131 = .ok (.iload_n 2, 1) := by decide +kernel
theorem eX11_doTwo_132 : decode cX11_doTwo 132 = .ok (.iaload, 1) := by decide +kernel
theorem eX11_doTwo_133 : decode cX11_doTwo 133 = .ok (.aload_n 0, 1) := by decide +kernel
theorem eX11_doTwo_134 : decode cX11_doTwo 134 = .ok (.getfield 179, 3) := by decide +kernel
theorem eX11_doTwo_137 : decode cX11_doTwo 137 = .ok (.iload_n 3, 1) := by decide +kernel
theorem eX11_doTwo_138 : decode cX11_doTwo 138 = .ok (.iaload, 1) := by decide +kernel
theorem eX11_doTwo_139 : decode cX11_doTwo 139 = .ok (.if_icmp .ge 7, 3) := by decide +kernel
theorem eX11_doTwo_142 : decode cX11_doTwo 142 = .ok (.iconst 1, 1) := by decide +kernel
theorem eX11_doTwo_143 : decode cX11_doTwo 143 = .ok (.goto 4, 3) := by decide +kernel
theorem eX11_doTwo_146 : decode cX11_doTwo 146 = .ok (.iconst 0, 1) := by decide +kernel
theorem eX11_doTwo_147 : decode cX11_doTwo 147 = .ok (.iconst (-1), 1) := by decide +kernel
theorem eX11_doTwo_148 : decode cX11_doTwo 148 = .ok (.iconst (-1), 1) := by decide +kernel
theorem eX11_doTwo_149 : decode cX11_doTwo 149 = .ok (.invokevirtual 594, 3) := by decide +kernel
theorem eX11_doTwo_152 : decode cX11_doTwo 152 = .ok (.invokevirtual 597, 3) := by decide +kernel
theorem eX11_doTwo_155 : decode cX11_doTwo 155 = .ok (.return_, 1) := by decide +kernel
def C_X11_doTwo (s : ST) (p : Int) (q : Int) (u : Int) (Q : ST → Prop) : Prop := bx <| RA s → R32 p → R32 q → R32 u → q_met mX11_doTwo (qs layM s) [.ref 139, .int (Int32.ofInt p), .int (Int32.ofInt q), .int (Int32.ofInt u)] (PV layM Q)
theorem C_X11_doTwo.mono {s : ST} {p : Int} {q : Int} {u : Int} {Q Q' : ST → Prop} (h : C_X11_doTwo s p q u Q) (hq : ∀ s, Q s → Q' s) : C_X11_doTwo s p q u Q' := ⟨fun hA hrp hrq hru => q_met.mono (h.1 hA hrp hrq hru) (fun _ _ => PV.mono hq), trivial⟩
def K_X11_doTwo_152 (s : ST) (t1 : Int) (Q : ST → Prop) : Prop := bx <| RA s → R32 t1 → q_K mX11_doTwo (qs layM s) 0 0 152 [] [.int (Int32.ofInt t1), .ref 139] (q_fin mX11_doTwo (PV layM Q))
def K_X11_doTwo_147 (s : ST) (t2 : Int) (t3 : Int) (Q : ST → Prop) : Prop := bx <| RA s → R32 t2 → R32 t3 → q_K mX11_doTwo (qs layM s) 0 0 147 [] [.int (Int32.ofInt t3), .int (Int32.ofInt t2), .ref 139, .ref 139] (q_fin mX11_doTwo (PV layM Q))
set_option maxRecDepth 20000 in
theorem s_X11_doTwo_152 {s : ST} {t1 : Int} {Q : ST → Prop} (h : RA s → R32 t1 → (C_X11_gives s t1 (fun s1 => Q s1))) : K_X11_doTwo_152 s t1 Q := by
  refine ⟨?_, trivial⟩
  intro hA hrt1
  have h := h hA hrt1
  refine q_V1 (ci := 11) (n := 0) eX11_doTwo_152 DX11_gives lX11_597 rfl (by decide) rfl rfl rfl rfl (h.1 hA hrt1) ?_
  rintro _ _ ⟨s1, rfl, hA1, rfl, h⟩
  exact q_ret eX11_doTwo_155 rfl ⟨_, rfl, hA1, rfl, h⟩
set_option maxRecDepth 20000 in
theorem s_X11_doTwo_147 {s : ST} {t2 : Int} {t3 : Int} {Q : ST → Prop} (h : RA s → R32 t2 → R32 t3 → (C_X11_valueOf s t2 t3 (-1) (-1) (fun s1 v1 => K_X11_doTwo_152 s1 v1 Q))) : K_X11_doTwo_147 s t2 t3 Q := by
  refine ⟨?_, trivial⟩
  intro hA hrt2 hrt3
  have h := h hA hrt2 hrt3
  refine q_ic (v := Int32.ofInt (-1)) eX11_doTwo_147 rfl ?_
  refine q_ic (v := Int32.ofInt (-1)) eX11_doTwo_148 rfl ?_
  refine q_V4 (ci := 11) (n := 0) eX11_doTwo_149 DX11_valueOf lX11_594 rfl (by decide) rfl rfl rfl rfl (h.1 hA hrt2 hrt3 (r32l rfl) (r32l rfl)) ?_
  rintro _ _ ⟨s1, v1, rfl, hA1, r1, rfl, h⟩
  exact q_subL rfl (h.1 hA1 r1)
set_option maxRecDepth 20000 in
theorem s_X11_doTwo {s : ST} {p : Int} {q : Int} {u : Int} {Q : ST → Prop} (h : RA s → R32 p → R32 q → R32 u → ((¬ p = 7 → ((¬ p = 11 → (((0 : Int) ≤ q ∧ q < 4100) ∧ ((¬ s.1 192 q = 0 → Q (ui s 139 88 (-2))) ∧ (s.1 192 q = 0 → (((0 : Int) ≤ u ∧ u < 4100) ∧ ((s.1 192 u = 0 → ((¬ p = 14 → ((s.1 193 u ≤ s.1 193 q → K_X11_doTwo_147 s 1 0 Q) ∧ (¬ s.1 193 u ≤ s.1 193 q → K_X11_doTwo_147 s 1 1 Q))) ∧ (p = 14 → (C_X11_valueOf s 0 (w32 (s.1 193 q + s.1 193 u)) (-1) (-1) (fun s3 v3 => K_X11_doTwo_152 s3 v3 Q))))) ∧ (¬ s.1 192 u = 0 → Q (ui s 139 88 (-2))))))))) ∧ (p = 11 → (((0 : Int) ≤ u ∧ u < 4100) ∧ ((s.1 192 u = 2 → (C_X11_valueOf s 2 (w32 (s.1 193 u + 1)) q u (fun s5 v5 => (C_X11_gives s5 v5 (fun s6 => Q s6))))) ∧ (¬ s.1 192 u = 2 → Q (ui s 139 88 (-2)))))))) ∧ (p = 7 → (C_X11_valueOf s 3 0 q u (fun s7 v7 => (C_X11_gives s7 v7 (fun s8 => Q s8))))))) : C_X11_doTwo s p q u Q := by
  refine ⟨?_, trivial⟩
  intro hA hrp hrq hru
  have h := h hA hrp hrq hru
  refine q_enter (by decide) (Nat.le_of_ble_eq_true rfl) ?_
  refine q_iload_n eX11_doTwo_0 rfl ?_
  refine q_bi (v := Int32.ofInt 7) eX11_doTwo_1 rfl ?_
  refine q_cz_ne (tgt := 21) (a := p) (b := 7) eX11_doTwo_3 (by decide) (ofz hrp) (ofz (r32l rfl)) (fun c3 => ?_) (fun c3 => ?_)
  · have h := h.1 c3
    refine q_iload_n eX11_doTwo_21 rfl ?_
    refine q_bi (v := Int32.ofInt 11) eX11_doTwo_22 rfl ?_
    refine q_cz_ne (tgt := 68) (a := p) (b := 11) eX11_doTwo_24 (by decide) (ofz hrp) (ofz (r32l rfl)) (fun c24 => ?_) (fun c24 => ?_)
    · have h := h.1 c24
      refine q_aload_n eX11_doTwo_68 rfl ?_
      refine q_getR (c := 11) (n := 0) (k := 76) (a := 192) eX11_doTwo_69 rfl (by decide) (by decide) fX11_176 rfl rfl ?_
      refine q_iload_n eX11_doTwo_72 rfl ?_
      have f1 := h.1
      have h := h.2
      refine z_iald (n := 4100) eX11_doTwo_73 rfl (ofz hrq) f1 ?_
      refine q_topI (v := Int32.ofInt (s.1 192 q)) rfl ?_
      refine q_iz_ne (tgt := 86) (a := s.1 192 q) eX11_doTwo_74 (by decide) (ofz (hA _ _)) (fun c74 => ?_) (fun c74 => ?_)
      · have h := h.1 c74
        refine q_aload_n eX11_doTwo_86 rfl ?_
        refine q_bi (v := Int32.ofInt (-2)) eX11_doTwo_87 rfl ?_
        refine z_putI (c := 11) (n := 0) (k := 88) (kz := 88) eX11_doTwo_89 rfl (by decide) (by decide) fX11_578 rfl rfl rfl ?_
        refine q_goto (tgt := 155) eX11_doTwo_92 (by decide) ?_
        exact q_ret eX11_doTwo_155 rfl ⟨_, rfl, (ra_ui hA (r32l rfl)), rfl, h⟩
      · have h := h.2 c74
        refine q_aload_n eX11_doTwo_77 rfl ?_
        refine q_getR (c := 11) (n := 0) (k := 76) (a := 192) eX11_doTwo_78 rfl (by decide) (by decide) fX11_176 rfl rfl ?_
        refine q_iload_n eX11_doTwo_81 rfl ?_
        have f2 := h.1
        have h := h.2
        refine z_iald (n := 4100) eX11_doTwo_82 rfl (ofz hru) f2 ?_
        refine q_topI (v := Int32.ofInt (s.1 192 u)) rfl ?_
        refine q_iz_eq (tgt := 95) (a := s.1 192 u) eX11_doTwo_83 (by decide) (ofz (hA _ _)) (fun c83 => ?_) (fun c83 => ?_)
        · have h := h.1 c83
          refine q_aload_n eX11_doTwo_95 rfl ?_
          refine q_iload_n eX11_doTwo_96 rfl ?_
          refine q_bi (v := Int32.ofInt 14) eX11_doTwo_97 rfl ?_
          refine q_cz_ne (tgt := 125) (a := p) (b := 14) eX11_doTwo_99 (by decide) (ofz hrp) (ofz (r32l rfl)) (fun c99 => ?_) (fun c99 => ?_)
          · have h := h.1 c99
            refine q_aload_n eX11_doTwo_125 rfl ?_
            refine q_ic (v := Int32.ofInt 1) eX11_doTwo_126 rfl ?_
            refine q_aload_n eX11_doTwo_127 rfl ?_
            refine q_getR (c := 11) (n := 0) (k := 77) (a := 193) eX11_doTwo_128 rfl (by decide) (by decide) fX11_179 rfl rfl ?_
            refine q_iload_n eX11_doTwo_131 rfl ?_
            refine z_iald (n := 4100) eX11_doTwo_132 rfl (ofz hrq) f1 ?_
            refine q_topI (v := Int32.ofInt (s.1 193 q)) rfl ?_
            refine q_aload_n eX11_doTwo_133 rfl ?_
            refine q_getR (c := 11) (n := 0) (k := 77) (a := 193) eX11_doTwo_134 rfl (by decide) (by decide) fX11_179 rfl rfl ?_
            refine q_iload_n eX11_doTwo_137 rfl ?_
            refine z_iald (n := 4100) eX11_doTwo_138 rfl (ofz hru) f2 ?_
            refine q_topI (v := Int32.ofInt (s.1 193 u)) rfl ?_
            refine q_cz_ge (tgt := 146) (a := s.1 193 q) (b := s.1 193 u) eX11_doTwo_139 (by decide) (ofz (hA _ _)) (ofz (hA _ _)) (fun c139 => ?_) (fun c139 => ?_)
            · have h := h.1 c139
              refine q_ic (v := Int32.ofInt 0) eX11_doTwo_146 rfl ?_
              exact q_subL rfl (h.1 hA (r32l rfl) (r32l rfl))
            · have h := h.2 c139
              refine q_ic (v := Int32.ofInt 1) eX11_doTwo_142 rfl ?_
              refine q_goto (tgt := 147) eX11_doTwo_143 (by decide) ?_
              exact q_subL rfl (h.1 hA (r32l rfl) (r32l rfl))
          · have h := h.2 c99
            refine q_aload_n eX11_doTwo_102 rfl ?_
            refine q_ic (v := Int32.ofInt 0) eX11_doTwo_103 rfl ?_
            refine q_aload_n eX11_doTwo_104 rfl ?_
            refine q_getR (c := 11) (n := 0) (k := 77) (a := 193) eX11_doTwo_105 rfl (by decide) (by decide) fX11_179 rfl rfl ?_
            refine q_iload_n eX11_doTwo_108 rfl ?_
            refine z_iald (n := 4100) eX11_doTwo_109 rfl (ofz hrq) f1 ?_
            refine q_topI (v := Int32.ofInt (s.1 193 q)) rfl ?_
            refine q_aload_n eX11_doTwo_110 rfl ?_
            refine q_getR (c := 11) (n := 0) (k := 77) (a := 193) eX11_doTwo_111 rfl (by decide) (by decide) fX11_179 rfl rfl ?_
            refine q_iload_n eX11_doTwo_114 rfl ?_
            refine z_iald (n := 4100) eX11_doTwo_115 rfl (ofz hru) f2 ?_
            refine q_topI (v := Int32.ofInt (s.1 193 u)) rfl ?_
            refine z_iadd eX11_doTwo_116 ?_
            refine q_topI (v := Int32.ofInt (w32 (s.1 193 q + s.1 193 u))) (w32_of _).symm ?_
            refine q_ic (v := Int32.ofInt (-1)) eX11_doTwo_117 rfl ?_
            refine q_ic (v := Int32.ofInt (-1)) eX11_doTwo_118 rfl ?_
            refine q_V4 (ci := 11) (n := 0) eX11_doTwo_119 DX11_valueOf lX11_594 rfl (by decide) rfl rfl rfl rfl (h.1 hA (r32l rfl) (w32_r _) (r32l rfl) (r32l rfl)) ?_
            rintro _ _ ⟨s3, v3, rfl, hA3, r3, rfl, h⟩
            refine q_goto (tgt := 152) eX11_doTwo_122 (by decide) ?_
            exact q_subL rfl (h.1 hA3 r3)
        · have h := h.2 c83
          refine q_aload_n eX11_doTwo_86 rfl ?_
          refine q_bi (v := Int32.ofInt (-2)) eX11_doTwo_87 rfl ?_
          refine z_putI (c := 11) (n := 0) (k := 88) (kz := 88) eX11_doTwo_89 rfl (by decide) (by decide) fX11_578 rfl rfl rfl ?_
          refine q_goto (tgt := 155) eX11_doTwo_92 (by decide) ?_
          exact q_ret eX11_doTwo_155 rfl ⟨_, rfl, (ra_ui hA (r32l rfl)), rfl, h⟩
    · have h := h.2 c24
      refine q_aload_n eX11_doTwo_27 rfl ?_
      refine q_getR (c := 11) (n := 0) (k := 76) (a := 192) eX11_doTwo_28 rfl (by decide) (by decide) fX11_176 rfl rfl ?_
      refine q_iload_n eX11_doTwo_31 rfl ?_
      have f4 := h.1
      have h := h.2
      refine z_iald (n := 4100) eX11_doTwo_32 rfl (ofz hru) f4 ?_
      refine q_topI (v := Int32.ofInt (s.1 192 u)) rfl ?_
      refine q_ic (v := Int32.ofInt 2) eX11_doTwo_33 rfl ?_
      refine q_cz_eq (tgt := 46) (a := s.1 192 u) (b := 2) eX11_doTwo_34 (by decide) (ofz (hA _ _)) (ofz (r32l rfl)) (fun c34 => ?_) (fun c34 => ?_)
      · have h := h.1 c34
        refine q_aload_n eX11_doTwo_46 rfl ?_
        refine q_aload_n eX11_doTwo_47 rfl ?_
        refine q_ic (v := Int32.ofInt 2) eX11_doTwo_48 rfl ?_
        refine q_aload_n eX11_doTwo_49 rfl ?_
        refine q_getR (c := 11) (n := 0) (k := 77) (a := 193) eX11_doTwo_50 rfl (by decide) (by decide) fX11_179 rfl rfl ?_
        refine q_iload_n eX11_doTwo_53 rfl ?_
        refine z_iald (n := 4100) eX11_doTwo_54 rfl (ofz hru) f4 ?_
        refine q_topI (v := Int32.ofInt (s.1 193 u)) rfl ?_
        refine q_ic (v := Int32.ofInt 1) eX11_doTwo_55 rfl ?_
        refine z_iadd eX11_doTwo_56 ?_
        refine q_topI (v := Int32.ofInt (w32 (s.1 193 u + 1))) (w32_of _).symm ?_
        refine q_iload_n eX11_doTwo_57 rfl ?_
        refine q_iload_n eX11_doTwo_58 rfl ?_
        refine q_V4 (ci := 11) (n := 0) eX11_doTwo_59 DX11_valueOf lX11_594 rfl (by decide) rfl rfl rfl rfl (h.1 hA (r32l rfl) (w32_r _) hrq hru) ?_
        rintro _ _ ⟨s5, v5, rfl, hA5, r5, rfl, h⟩
        refine q_V1 (ci := 11) (n := 0) eX11_doTwo_62 DX11_gives lX11_597 rfl (by decide) rfl rfl rfl rfl (h.1 hA5 r5) ?_
        rintro _ _ ⟨s6, rfl, hA6, rfl, h⟩
        refine q_goto (tgt := 155) eX11_doTwo_65 (by decide) ?_
        exact q_ret eX11_doTwo_155 rfl ⟨_, rfl, hA6, rfl, h⟩
      · have h := h.2 c34
        refine q_aload_n eX11_doTwo_37 rfl ?_
        refine q_bi (v := Int32.ofInt (-2)) eX11_doTwo_38 rfl ?_
        refine z_putI (c := 11) (n := 0) (k := 88) (kz := 88) eX11_doTwo_40 rfl (by decide) (by decide) fX11_578 rfl rfl rfl ?_
        refine q_goto (tgt := 155) eX11_doTwo_43 (by decide) ?_
        exact q_ret eX11_doTwo_155 rfl ⟨_, rfl, (ra_ui hA (r32l rfl)), rfl, h⟩
  · have h := h.2 c3
    refine q_aload_n eX11_doTwo_6 rfl ?_
    refine q_aload_n eX11_doTwo_7 rfl ?_
    refine q_ic (v := Int32.ofInt 3) eX11_doTwo_8 rfl ?_
    refine q_ic (v := Int32.ofInt 0) eX11_doTwo_9 rfl ?_
    refine q_iload_n eX11_doTwo_10 rfl ?_
    refine q_iload_n eX11_doTwo_11 rfl ?_
    refine q_V4 (ci := 11) (n := 0) eX11_doTwo_12 DX11_valueOf lX11_594 rfl (by decide) rfl rfl rfl rfl (h.1 hA (r32l rfl) (r32l rfl) hrq hru) ?_
    rintro _ _ ⟨s7, v7, rfl, hA7, r7, rfl, h⟩
    refine q_V1 (ci := 11) (n := 0) eX11_doTwo_15 DX11_gives lX11_597 rfl (by decide) rfl rfl rfl rfl (h.1 hA7 r7) ?_
    rintro _ _ ⟨s8, rfl, hA8, rfl, h⟩
    refine q_goto (tgt := 155) eX11_doTwo_18 (by decide) ?_
    exact q_ret eX11_doTwo_155 rfl ⟨_, rfl, hA8, rfl, h⟩
