/-! STEP ROWS of the reference. By program (wip/wp/gen_parts.py). -/
theorem eX11_beginsLay_0 : decode cX11_beginsLay 0 = .ok (.aload_n 0, 1) := by decide +kernel
theorem eX11_beginsLay_1 : decode cX11_beginsLay 1 = .ok (.getfield 45, 3) := by decide +kernel
theorem eX11_beginsLay_4 : decode cX11_beginsLay 4 = .ok (.bipush 40, 2) := by decide +kernel
theorem eX11_beginsLay_6 : decode cX11_beginsLay 6 = .ok (.iload_n 1, 1) := by decide +kernel
theorem eX11_beginsLay_7 : decode cX11_beginsLay 7 = .ok (.imul, 1) := by decide +kernel
theorem eX11_beginsLay_8 : decode cX11_beginsLay 8 = .ok (.iload_n 2, 1) := by decide +kernel
theorem eX11_beginsLay_9 : decode cX11_beginsLay 9 = .ok (.iadd, 1) := by decide +kernel
theorem eX11_beginsLay_10 : decode cX11_beginsLay 10 = .ok (.iaload, 1) := by decide +kernel
theorem eX11_beginsLay_11 : decode cX11_beginsLay 11 = .ok (.iload_n 2, 1) := by decide +kernel
theorem eX11_beginsLay_12 : decode cX11_beginsLay 12 = .ok (.isub, 1) := by decide +kernel
theorem eX11_beginsLay_13 : decode cX11_beginsLay 13 = .ok (.iconst 1, 1) := by decide +kernel
theorem eX11_beginsLay_14 : decode cX11_beginsLay 14 = .ok (.iadd, 1) := by decide +kernel
theorem eX11_beginsLay_15 : decode cX11_beginsLay 15 = .ok (.istore 4, 2) := by decide +kernel
theorem eX11_beginsLay_17 : decode cX11_beginsLay 17 = .ok (.aload_n 0, 1) := by decide +kernel
theorem eX11_beginsLay_18 : decode cX11_beginsLay 18 = .ok (.getfield 106, 3) := by decide +kernel
theorem eX11_beginsLay_21 : decode cX11_beginsLay 21 = .ok (.aload_n 0, 1) := by decide +kernel
theorem eX11_beginsLay_22 : decode cX11_beginsLay 22 = .ok (.getfield 396, 3) := by decide +kernel
theorem eX11_beginsLay_25 : decode cX11_beginsLay 25 = .ok (.iload_n 2, 1) := by decide +kernel
theorem eX11_beginsLay_26 : decode cX11_beginsLay 26 = .ok (.iastore, 1) := by decide +kernel
theorem eX11_beginsLay_27 : decode cX11_beginsLay 27 = .ok (.aload_n 0, 1) := by decide +kernel
theorem eX11_beginsLay_28 : decode cX11_beginsLay 28 = .ok (.getfield 109, 3) := by decide +kernel
theorem eX11_beginsLay_31 : decode cX11_beginsLay 31 = .ok (.aload_n 0, 1) := by decide +kernel
theorem eX11_beginsLay_32 : decode cX11_beginsLay 32 = .ok (.getfield 396, 3) := by decide +kernel
theorem eX11_beginsLay_35 : decode cX11_beginsLay 35 = .ok (.iload_n 3, 1) := by decide +kernel
theorem eX11_beginsLay_36 : decode cX11_beginsLay 36 = .ok (.iastore, 1) := by decide +kernel
theorem eX11_beginsLay_37 : decode cX11_beginsLay 37 = .ok (.aload_n 0, 1) := by decide +kernel
theorem eX11_beginsLay_38 : decode cX11_beginsLay 38 = .ok (.getfield 112, 3) := by decide +kernel
theorem eX11_beginsLay_41 : decode cX11_beginsLay 41 = .ok (.aload_n 0, 1) := by decide +kernel
theorem eX11_beginsLay_42 : decode cX11_beginsLay 42 = .ok (.getfield 396, 3) := by decide +kernel
theorem eX11_beginsLay_45 : decode cX11_beginsLay 45 = .ok (.aload_n 0, 1) := by decide +kernel
theorem eX11_beginsLay_46 : decode cX11_beginsLay 46 = .ok (.getfield 386, 3) := by decide +kernel
theorem eX11_beginsLay_49 : decode cX11_beginsLay 49 = .ok (.iastore, 1) := by decide +kernel
theorem eX11_beginsLay_50 : decode cX11_beginsLay 50 = .ok (.iconst 0, 1) := by decide +kernel
theorem eX11_beginsLay_51 : decode cX11_beginsLay 51 = .ok (.istore 5, 2) := by decide +kernel
theorem eX11_beginsLay_53 : decode cX11_beginsLay 53 = .ok (.iload 5, 2) := by decide +kernel
theorem eX11_beginsLay_55 : decode cX11_beginsLay 55 = .ok (.iload 4, 2) := by decide +kernel
theorem eX11_beginsLay_57 : decode cX11_beginsLay 57 = .ok (.if_icmp .ge 14, 3) := by decide +kernel
theorem eX11_beginsLay_60 : decode cX11_beginsLay 60 = .ok (.aload_n 0, 1) := by decide +kernel
theorem eX11_beginsLay_61 : decode cX11_beginsLay 61 = .ok (.invokevirtual 399, 3) := by decide +kernel
theorem eX11_beginsLay_64 : decode cX11_beginsLay 64 = .ok (.pop, 1) := by decide +kernel
theorem eX11_beginsLay_65 : decode cX11_beginsLay 65 = .ok (.iinc 5 1, 3) := by decide +kernel
theorem eX11_beginsLay_68 : decode cX11_beginsLay 68 = .ok (.goto (-15), 3) := by decide +kernel
theorem eX11_beginsLay_71 : decode cX11_beginsLay 71 = .ok (.aload_n 0, 1) := by decide +kernel
theorem eX11_beginsLay_72 : decode cX11_beginsLay 72 = .ok (.getfield 115, 3) := by decide +kernel
theorem eX11_beginsLay_75 : decode cX11_beginsLay 75 = .ok (.aload_n 0, 1) := by decide +kernel
theorem eX11_beginsLay_76 : decode cX11_beginsLay 76 = .ok (.getfield 396, 3) := by decide +kernel
theorem eX11_beginsLay_79 : decode cX11_beginsLay 79 = .ok (.aload_n 0, 1) := by decide +kernel
theorem eX11_beginsLay_80 : decode cX11_beginsLay 80 = .ok (.getfield 386, 3) := by decide +kernel
theorem eX11_beginsLay_83 : decode cX11_beginsLay 83 = .ok (.iastore, 1) := by decide +kernel
theorem eX11_beginsLay_84 : decode cX11_beginsLay 84 = .ok (.iconst 0, 1) := by decide +kernel
theorem eX11_beginsLay_85 : decode cX11_beginsLay 85 = .ok (.istore 5, 2) := by decide +kernel
theorem eX11_beginsLay_87 : decode cX11_beginsLay 87 = .ok (.iload 5, 2) := by decide +kernel
theorem eX11_beginsLay_89 : decode cX11_beginsLay 89 = .ok (.iload 4, 2) := by decide +kernel
theorem eX11_beginsLay_91 : decode cX11_beginsLay 91 = .ok (.if_icmp .ge 14, 3) := by decide +kernel
theorem eX11_beginsLay_94 : decode cX11_beginsLay 94 = .ok (.aload_n 0, 1) := by decide +kernel
theorem eX11_beginsLay_95 : decode cX11_beginsLay 95 = .ok (.invokevirtual 399, 3) := by decide +kernel
theorem eX11_beginsLay_98 : decode cX11_beginsLay 98 = .ok (.pop, 1) := by decide +kernel
theorem eX11_beginsLay_99 : decode cX11_beginsLay 99 = .ok (.iinc 5 1, 3) := by decide +kernel
theorem eX11_beginsLay_102 : decode cX11_beginsLay 102 = .ok (.goto (-15), 3) := by decide +kernel
theorem eX11_beginsLay_105 : decode cX11_beginsLay 105 = .ok (.aload_n 0, 1) := by decide +kernel
theorem eX11_beginsLay_106 : decode cX11_beginsLay 106 = .ok (.dup, 1) := by decide +kernel
theorem eX11_beginsLay_107 : decode cX11_beginsLay 107 = .ok (.getfield 396, 3) := by decide +kernel
theorem eX11_beginsLay_110 : decode cX11_beginsLay 110 = .ok (.iconst 1, 1) := by decide +kernel
theorem eX11_beginsLay_111 : decode cX11_beginsLay 111 = .ok (.iadd, 1) := by decide +kernel
theorem eX11_beginsLay_112 : decode cX11_beginsLay 112 = .ok (.putfield 396, 3) := by decide +kernel
theorem eX11_beginsLay_115 : decode cX11_beginsLay 115 = .ok (.aload_n 0, 1) := by decide +kernel
theorem eX11_beginsLay_116 : decode cX11_beginsLay 116 = .ok (.getfield 396, 3) := by decide +kernel
theorem eX11_beginsLay_119 : decode cX11_beginsLay 119 = .ok (.iconst 1, 1) := by decide +kernel
theorem eX11_beginsLay_120 : decode cX11_beginsLay 120 = .ok (.isub, 1) := by decide +kernel
theorem eX11_beginsLay_121 : decode cX11_beginsLay 121 = .ok (.ireturn, 1) := by decide +kernel
def C_X11_beginsLay (s : ST) (p : Int) (q : Int) (u : Int) (Q : ST → Int → Prop) : Prop := bx <| RA s → R32 p → R32 q → R32 u → q_met mX11_beginsLay (qs layM s) [.ref 139, .int (Int32.ofInt p), .int (Int32.ofInt q), .int (Int32.ofInt u)] (PI layM Q)
theorem C_X11_beginsLay.mono {s : ST} {p : Int} {q : Int} {u : Int} {Q Q' : ST → Int → Prop} (h : C_X11_beginsLay s p q u Q) (hq : ∀ s v, Q s v → Q' s v) : C_X11_beginsLay s p q u Q' := ⟨fun hA hrp hrq hru => q_met.mono (h.1 hA hrp hrq hru) (fun _ _ => PI.mono hq), trivial⟩
def K_X11_beginsLay_87 (s : ST) (a4 : Int) (a5 : Int) (Q : ST → Int → Prop) : Prop := bx <| RA s → R32 a4 → R32 a5 → q_K mX11_beginsLay (qs layM s) 0 0 87 [(0, .ref 139), (4, .int (Int32.ofInt a4)), (5, .int (Int32.ofInt a5))] [] (q_fin mX11_beginsLay (PI layM Q))
def K_X11_beginsLay_53 (s : ST) (a4 : Int) (a5 : Int) (Q : ST → Int → Prop) : Prop := bx <| RA s → R32 a4 → R32 a5 → q_K mX11_beginsLay (qs layM s) 0 0 53 [(0, .ref 139), (4, .int (Int32.ofInt a4)), (5, .int (Int32.ofInt a5))] [] (q_fin mX11_beginsLay (PI layM Q))
set_option maxRecDepth 20000 in
theorem s_X11_beginsLay_87 {s : ST} {a4 : Int} {a5 : Int} {Q : ST → Int → Prop} (h : RA s → R32 a4 → R32 a5 → ((a4 ≤ a5 → (R32 (s.1 139 48 + 1) ∧ (R32 ((s.1 139 48 + 1) - 1) ∧ Q (ui s 139 48 (s.1 139 48 + 1)) ((s.1 139 48 + 1) - 1)))) ∧ (¬ a4 ≤ a5 → (C_X11_openTerm s (fun s3 v3 => (R32 (a5 + 1) ∧ K_X11_beginsLay_87 s3 a4 (a5 + 1) Q)))))) : K_X11_beginsLay_87 s a4 a5 Q := by
  refine ⟨?_, trivial⟩
  intro hA hra4 hra5
  have h := h hA hra4 hra5
  refine q_iload eX11_beginsLay_87 rfl ?_
  refine q_iload eX11_beginsLay_89 rfl ?_
  refine q_cz_ge (tgt := 105) (a := a5) (b := a4) eX11_beginsLay_91 (by decide) (ofz hra5) (ofz hra4) (fun c91 => ?_) (fun c91 => ?_)
  · have h := h.1 c91
    refine q_aload_n eX11_beginsLay_105 rfl ?_
    refine q_dup eX11_beginsLay_106 rfl ?_
    refine q_getf (c := 11) (n := 0) (k := 48) (v := .int (Int32.ofInt (s.1 139 48))) eX11_beginsLay_107 rfl (by decide) (by decide) fX11_396 rfl ?_
    refine q_ic (v := Int32.ofInt 1) eX11_beginsLay_110 rfl ?_
    refine z_iadd eX11_beginsLay_111 ?_
    have r1 := h.1
    have h := h.2
    refine z_putI (c := 11) (n := 0) (k := 48) (kz := 48) eX11_beginsLay_112 rfl (by decide) (by decide) fX11_396 rfl rfl rfl ?_
    refine q_aload_n eX11_beginsLay_115 rfl ?_
    refine q_getf (c := 11) (n := 0) (k := 48) (v := .int (Int32.ofInt (s.1 139 48 + 1))) eX11_beginsLay_116 rfl (by decide) (by decide) fX11_396 rfl ?_
    refine q_ic (v := Int32.ofInt 1) eX11_beginsLay_119 rfl ?_
    refine z_isub eX11_beginsLay_120 ?_
    have r2 := h.1
    have h := h.2
    exact q_iret eX11_beginsLay_121 rfl ⟨_, _, rfl, (ra_ui hA r1), r2, rfl, h⟩
  · have h := h.2 c91
    refine q_aload_n eX11_beginsLay_94 rfl ?_
    refine q_V0 (ci := 11) (n := 0) eX11_beginsLay_95 DX11_openTerm lX11_399 rfl (by decide) rfl rfl rfl rfl (h.1 hA) ?_
    rintro _ _ ⟨s3, v3, rfl, hA3, r3, rfl, h⟩
    refine q_pop eX11_beginsLay_98 rfl ?_
    have r4 := h.1
    have h := h.2
    refine z_inc (m := 1) eX11_beginsLay_99 rfl (Nat.le_of_ble_eq_true rfl) rfl ?_
    refine q_goto (tgt := 87) eX11_beginsLay_102 (by decide) ?_
    exact q_subL rfl (h.1 hA3 hra4 r4)
set_option maxRecDepth 20000 in
theorem s_X11_beginsLay_53 {s : ST} {a4 : Int} {a5 : Int} {Q : ST → Int → Prop} (h : RA s → R32 a4 → R32 a5 → ((a4 ≤ a5 → (((0 : Int) ≤ s.1 139 48 ∧ s.1 139 48 < 420) ∧ K_X11_beginsLay_87 (ui s 173 (s.1 139 48) (s.1 139 46)) a4 0 Q)) ∧ (¬ a4 ≤ a5 → (C_X11_openTerm s (fun s2 v2 => (R32 (a5 + 1) ∧ K_X11_beginsLay_53 s2 a4 (a5 + 1) Q)))))) : K_X11_beginsLay_53 s a4 a5 Q := by
  refine ⟨?_, trivial⟩
  intro hA hra4 hra5
  have h := h hA hra4 hra5
  refine q_iload eX11_beginsLay_53 rfl ?_
  refine q_iload eX11_beginsLay_55 rfl ?_
  refine q_cz_ge (tgt := 71) (a := a5) (b := a4) eX11_beginsLay_57 (by decide) (ofz hra5) (ofz hra4) (fun c57 => ?_) (fun c57 => ?_)
  · have h := h.1 c57
    refine q_aload_n eX11_beginsLay_71 rfl ?_
    refine q_getR (c := 11) (n := 0) (k := 45) (a := 173) eX11_beginsLay_72 rfl (by decide) (by decide) fX11_115 rfl rfl ?_
    refine q_aload_n eX11_beginsLay_75 rfl ?_
    refine q_getf (c := 11) (n := 0) (k := 48) (v := .int (Int32.ofInt (s.1 139 48))) eX11_beginsLay_76 rfl (by decide) (by decide) fX11_396 rfl ?_
    refine q_aload_n eX11_beginsLay_79 rfl ?_
    refine q_getf (c := 11) (n := 0) (k := 46) (v := .int (Int32.ofInt (s.1 139 46))) eX11_beginsLay_80 rfl (by decide) (by decide) fX11_386 rfl ?_
    have f1 := h.1
    have h := h.2
    refine z_iast (n := 420) eX11_beginsLay_83 rfl (ofz (hA _ _)) f1  ?_
    refine q_ic (v := Int32.ofInt 0) eX11_beginsLay_84 rfl ?_
    refine q_istore eX11_beginsLay_85 (Nat.le_of_ble_eq_true rfl) ?_
    exact q_subL rfl (h.1 (ra_ui hA (hA _ _)) hra4 (r32l rfl))
  · have h := h.2 c57
    refine q_aload_n eX11_beginsLay_60 rfl ?_
    refine q_V0 (ci := 11) (n := 0) eX11_beginsLay_61 DX11_openTerm lX11_399 rfl (by decide) rfl rfl rfl rfl (h.1 hA) ?_
    rintro _ _ ⟨s2, v2, rfl, hA2, r2, rfl, h⟩
    refine q_pop eX11_beginsLay_64 rfl ?_
    have r3 := h.1
    have h := h.2
    refine z_inc (m := 1) eX11_beginsLay_65 rfl (Nat.le_of_ble_eq_true rfl) rfl ?_
    refine q_goto (tgt := 53) eX11_beginsLay_68 (by decide) ?_
    exact q_subL rfl (h.1 hA2 hra4 r3)
set_option maxRecDepth 20000 in
theorem s_X11_beginsLay {s : ST} {p : Int} {q : Int} {u : Int} {Q : ST → Int → Prop} (h : RA s → R32 p → R32 q → R32 u → (R32 (40 * p) ∧ (R32 ((40 * p) + q) ∧ (((0 : Int) ≤ ((40 * p) + q) ∧ ((40 * p) + q) < 240) ∧ (R32 (s.1 150 ((40 * p) + q) - q) ∧ (R32 ((s.1 150 ((40 * p) + q) - q) + 1) ∧ (((0 : Int) ≤ s.1 139 48 ∧ s.1 139 48 < 420) ∧ K_X11_beginsLay_53 (ui (ui (ui s 170 (s.1 139 48) q) 171 (s.1 139 48) u) 172 (s.1 139 48) (s.1 139 46)) ((s.1 150 ((40 * p) + q) - q) + 1) 0 Q))))))) : C_X11_beginsLay s p q u Q := by
  refine ⟨?_, trivial⟩
  intro hA hrp hrq hru
  have h := h hA hrp hrq hru
  refine q_enter (by decide) (Nat.le_of_ble_eq_true rfl) ?_
  refine q_aload_n eX11_beginsLay_0 rfl ?_
  refine q_getR (c := 11) (n := 0) (k := 19) (a := 150) eX11_beginsLay_1 rfl (by decide) (by decide) fX11_45 rfl rfl ?_
  refine q_bi (v := Int32.ofInt 40) eX11_beginsLay_4 rfl ?_
  refine q_iload_n eX11_beginsLay_6 rfl ?_
  refine z_imul eX11_beginsLay_7 ?_
  have r1 := h.1
  have h := h.2
  refine q_iload_n eX11_beginsLay_8 rfl ?_
  refine z_iadd eX11_beginsLay_9 ?_
  have r2 := h.1
  have h := h.2
  have f3 := h.1
  have h := h.2
  refine z_iald (n := 240) eX11_beginsLay_10 rfl (ofz r2) f3 ?_
  refine q_topI (v := Int32.ofInt (s.1 150 ((40 * p) + q))) rfl ?_
  refine q_iload_n eX11_beginsLay_11 rfl ?_
  refine z_isub eX11_beginsLay_12 ?_
  have r4 := h.1
  have h := h.2
  refine q_ic (v := Int32.ofInt 1) eX11_beginsLay_13 rfl ?_
  refine z_iadd eX11_beginsLay_14 ?_
  have r5 := h.1
  have h := h.2
  refine q_istore eX11_beginsLay_15 (Nat.le_of_ble_eq_true rfl) ?_
  refine q_aload_n eX11_beginsLay_17 rfl ?_
  refine q_getR (c := 11) (n := 0) (k := 42) (a := 170) eX11_beginsLay_18 rfl (by decide) (by decide) fX11_106 rfl rfl ?_
  refine q_aload_n eX11_beginsLay_21 rfl ?_
  refine q_getf (c := 11) (n := 0) (k := 48) (v := .int (Int32.ofInt (s.1 139 48))) eX11_beginsLay_22 rfl (by decide) (by decide) fX11_396 rfl ?_
  refine q_iload_n eX11_beginsLay_25 rfl ?_
  have f6 := h.1
  have h := h.2
  refine z_iast (n := 420) eX11_beginsLay_26 rfl (ofz (hA _ _)) f6  ?_
  refine q_aload_n eX11_beginsLay_27 rfl ?_
  refine q_getR (c := 11) (n := 0) (k := 43) (a := 171) eX11_beginsLay_28 rfl (by decide) (by decide) fX11_109 rfl rfl ?_
  refine q_aload_n eX11_beginsLay_31 rfl ?_
  refine q_getf (c := 11) (n := 0) (k := 48) (v := .int (Int32.ofInt (s.1 139 48))) eX11_beginsLay_32 rfl (by decide) (by decide) fX11_396 rfl ?_
  refine q_iload_n eX11_beginsLay_35 rfl ?_
  refine z_iast (n := 420) eX11_beginsLay_36 rfl (ofz (hA _ _)) f6  ?_
  refine q_aload_n eX11_beginsLay_37 rfl ?_
  refine q_getR (c := 11) (n := 0) (k := 44) (a := 172) eX11_beginsLay_38 rfl (by decide) (by decide) fX11_112 rfl rfl ?_
  refine q_aload_n eX11_beginsLay_41 rfl ?_
  refine q_getf (c := 11) (n := 0) (k := 48) (v := .int (Int32.ofInt (s.1 139 48))) eX11_beginsLay_42 rfl (by decide) (by decide) fX11_396 rfl ?_
  refine q_aload_n eX11_beginsLay_45 rfl ?_
  refine q_getf (c := 11) (n := 0) (k := 46) (v := .int (Int32.ofInt (s.1 139 46))) eX11_beginsLay_46 rfl (by decide) (by decide) fX11_386 rfl ?_
  refine z_iast (n := 420) eX11_beginsLay_49 rfl (ofz (hA _ _)) f6  ?_
  refine q_ic (v := Int32.ofInt 0) eX11_beginsLay_50 rfl ?_
  refine q_istore eX11_beginsLay_51 (Nat.le_of_ble_eq_true rfl) ?_
  exact q_subL rfl (h.1 (ra_ui (ra_ui (ra_ui hA hrq) hru) (hA _ _)) r5 (r32l rfl))
theorem eX11_kindOf_0 : decode cX11_kindOf 0 = .ok (.aload_n 0, 1) := by decide +kernel
theorem eX11_kindOf_1 : decode cX11_kindOf 1 = .ok (.getfield 112, 3) := by decide +kernel
theorem eX11_kindOf_4 : decode cX11_kindOf 4 = .ok (.iload_n 1, 1) := by decide +kernel
theorem eX11_kindOf_5 : decode cX11_kindOf 5 = .ok (.iaload, 1) := by decide +kernel
theorem eX11_kindOf_6 : decode cX11_kindOf 6 = .ok (.iload_n 2, 1) := by decide +kernel
theorem eX11_kindOf_7 : decode cX11_kindOf 7 = .ok (.iadd, 1) := by decide +kernel
theorem eX11_kindOf_8 : decode cX11_kindOf 8 = .ok (.aload_n 0, 1) := by decide +kernel
theorem eX11_kindOf_9 : decode cX11_kindOf 9 = .ok (.getfield 106, 3) := by decide +kernel
theorem eX11_kindOf_12 : decode cX11_kindOf 12 = .ok (.iload_n 1, 1) := by decide +kernel
theorem eX11_kindOf_13 : decode cX11_kindOf 13 = .ok (.iaload, 1) := by decide +kernel
theorem eX11_kindOf_14 : decode cX11_kindOf 14 = .ok (.isub, 1) := by decide +kernel
theorem eX11_kindOf_15 : decode cX11_kindOf 15 = .ok (.ireturn, 1) := by decide +kernel
def C_X11_kindOf (s : ST) (p : Int) (q : Int) (Q : ST → Int → Prop) : Prop := bx <| RA s → R32 p → R32 q → q_met mX11_kindOf (qs layM s) [.ref 139, .int (Int32.ofInt p), .int (Int32.ofInt q)] (PI layM Q)
theorem C_X11_kindOf.mono {s : ST} {p : Int} {q : Int} {Q Q' : ST → Int → Prop} (h : C_X11_kindOf s p q Q) (hq : ∀ s v, Q s v → Q' s v) : C_X11_kindOf s p q Q' := ⟨fun hA hrp hrq => q_met.mono (h.1 hA hrp hrq) (fun _ _ => PI.mono hq), trivial⟩
set_option maxRecDepth 20000 in
theorem s_X11_kindOf {s : ST} {p : Int} {q : Int} {Q : ST → Int → Prop} (h : RA s → R32 p → R32 q → (((0 : Int) ≤ p ∧ p < 420) ∧ (R32 (s.1 172 p + q) ∧ (R32 ((s.1 172 p + q) - s.1 170 p) ∧ Q s ((s.1 172 p + q) - s.1 170 p))))) : C_X11_kindOf s p q Q := by
  refine ⟨?_, trivial⟩
  intro hA hrp hrq
  have h := h hA hrp hrq
  refine q_enter (by decide) (Nat.le_of_ble_eq_true rfl) ?_
  refine q_aload_n eX11_kindOf_0 rfl ?_
  refine q_getR (c := 11) (n := 0) (k := 44) (a := 172) eX11_kindOf_1 rfl (by decide) (by decide) fX11_112 rfl rfl ?_
  refine q_iload_n eX11_kindOf_4 rfl ?_
  have f1 := h.1
  have h := h.2
  refine z_iald (n := 420) eX11_kindOf_5 rfl (ofz hrp) f1 ?_
  refine q_topI (v := Int32.ofInt (s.1 172 p)) rfl ?_
  refine q_iload_n eX11_kindOf_6 rfl ?_
  refine z_iadd eX11_kindOf_7 ?_
  have r2 := h.1
  have h := h.2
  refine q_aload_n eX11_kindOf_8 rfl ?_
  refine q_getR (c := 11) (n := 0) (k := 42) (a := 170) eX11_kindOf_9 rfl (by decide) (by decide) fX11_106 rfl rfl ?_
  refine q_iload_n eX11_kindOf_12 rfl ?_
  refine z_iald (n := 420) eX11_kindOf_13 rfl (ofz hrp) f1 ?_
  refine q_topI (v := Int32.ofInt (s.1 170 p)) rfl ?_
  refine z_isub eX11_kindOf_14 ?_
  have r3 := h.1
  have h := h.2
  exact q_iret eX11_kindOf_15 rfl ⟨_, _, rfl, hA, r3, rfl, h⟩
def F_X11_kindOf (s : ST) (p : Int) (q : Int) : Int := ((s.1 172 p + q) - s.1 170 p)
abbrev P_X11_kindOf (s : ST) (p : Int) (q : Int) : Prop := (((0 : Int) ≤ p ∧ p < 420) ∧ R32 (s.1 172 p + q) ∧ R32 ((s.1 172 p + q) - s.1 170 p))
theorem w_X11_kindOf {s : ST} {p : Int} {q : Int} (h : P_X11_kindOf s p q) : C_X11_kindOf s p q (fun s' v => s' = s ∧ v = F_X11_kindOf s p q) := by
  refine s_X11_kindOf (fun hA hrp hrq => ?_)
  unfold P_X11_kindOf at h
  refine ⟨h.1, ?_⟩
  have h := h.2
  refine ⟨h.1, ?_⟩
  have h := h.2
  refine ⟨h, ?_⟩
  exact ⟨rfl, rfl⟩
theorem p_X11_kindOf {s : ST} {p : Int} {q : Int} (h : P_X11_kindOf s p q) : RA s → R32 p → R32 q → q_met mX11_kindOf (qs layM s) [.ref 139, .int (Int32.ofInt p), .int (Int32.ofInt q)] (fun σ r => R32 (F_X11_kindOf s p q) ∧ σ = qs layM s ∧ r = some (.int (Int32.ofInt (F_X11_kindOf s p q)))) := fun hA hrp hrq => q_met.mono ((w_X11_kindOf h).1 hA hrp hrq) (by
  rintro _ _ ⟨s1, v1, rfl, h1, h2, rfl, rfl, rfl⟩
  exact ⟨h2, rfl, rfl⟩)
theorem eX11_kidKind_0 : decode cX11_kidKind 0 = .ok (.aload_n 0, 1) := by decide +kernel
theorem eX11_kidKind_1 : decode cX11_kidKind 1 = .ok (.iload_n 2, 1) := by decide +kernel
theorem eX11_kidKind_2 : decode cX11_kidKind 2 = .ok (.aload_n 0, 1) := by decide +kernel
theorem eX11_kidKind_3 : decode cX11_kidKind 3 = .ok (.getfield 51, 3) := by decide +kernel
theorem eX11_kidKind_6 : decode cX11_kidKind 6 = .ok (.iconst 3, 1) := by decide +kernel
theorem eX11_kidKind_7 : decode cX11_kidKind 7 = .ok (.bipush 40, 2) := by decide +kernel
theorem eX11_kidKind_9 : decode cX11_kidKind 9 = .ok (.iload_n 1, 1) := by decide +kernel
theorem eX11_kidKind_10 : decode cX11_kidKind 10 = .ok (.imul, 1) := by decide +kernel
theorem eX11_kidKind_11 : decode cX11_kidKind 11 = .ok (.iload_n 3, 1) := by decide +kernel
theorem eX11_kidKind_12 : decode cX11_kidKind 12 = .ok (.iadd, 1) := by decide +kernel
theorem eX11_kidKind_13 : decode cX11_kidKind 13 = .ok (.imul, 1) := by decide +kernel
theorem eX11_kidKind_14 : decode cX11_kidKind 14 = .ok (.iload 4, 2) := by decide +kernel
theorem eX11_kidKind_16 : decode cX11_kidKind 16 = .ok (.iadd, 1) := by decide +kernel
theorem eX11_kidKind_17 : decode cX11_kidKind 17 = .ok (.iaload, 1) := by decide +kernel
theorem eX11_kidKind_18 : decode cX11_kidKind 18 = .ok (.invokevirtual 415, 3) := by decide +kernel
theorem eX11_kidKind_21 : decode cX11_kidKind 21 = .ok (.ireturn, 1) := by decide +kernel
def C_X11_kidKind (s : ST) (p : Int) (q : Int) (u : Int) (w : Int) (Q : ST → Int → Prop) : Prop := bx <| RA s → R32 p → R32 q → R32 u → R32 w → q_met mX11_kidKind (qs layM s) [.ref 139, .int (Int32.ofInt p), .int (Int32.ofInt q), .int (Int32.ofInt u), .int (Int32.ofInt w)] (PI layM Q)
theorem C_X11_kidKind.mono {s : ST} {p : Int} {q : Int} {u : Int} {w : Int} {Q Q' : ST → Int → Prop} (h : C_X11_kidKind s p q u w Q) (hq : ∀ s v, Q s v → Q' s v) : C_X11_kidKind s p q u w Q' := ⟨fun hA hrp hrq hru hrw => q_met.mono (h.1 hA hrp hrq hru hrw) (fun _ _ => PI.mono hq), trivial⟩
set_option maxRecDepth 20000 in
theorem s_X11_kidKind {s : ST} {p : Int} {q : Int} {u : Int} {w : Int} {Q : ST → Int → Prop} (h : RA s → R32 p → R32 q → R32 u → R32 w → (R32 (40 * p) ∧ (R32 ((40 * p) + u) ∧ (R32 (3 * ((40 * p) + u)) ∧ (R32 ((3 * ((40 * p) + u)) + w) ∧ (((0 : Int) ≤ ((3 * ((40 * p) + u)) + w) ∧ ((3 * ((40 * p) + u)) + w) < 720) ∧ (P_X11_kindOf s q (s.1 152 ((3 * ((40 * p) + u)) + w)) ∧ Q s ((s.1 172 q + (s.1 152 ((3 * ((40 * p) + u)) + w))) - s.1 170 q)))))))) : C_X11_kidKind s p q u w Q := by
  refine ⟨?_, trivial⟩
  intro hA hrp hrq hru hrw
  have h := h hA hrp hrq hru hrw
  refine q_enter (by decide) (Nat.le_of_ble_eq_true rfl) ?_
  refine q_aload_n eX11_kidKind_0 rfl ?_
  refine q_iload_n eX11_kidKind_1 rfl ?_
  refine q_aload_n eX11_kidKind_2 rfl ?_
  refine q_getR (c := 11) (n := 0) (k := 21) (a := 152) eX11_kidKind_3 rfl (by decide) (by decide) fX11_51 rfl rfl ?_
  refine q_ic (v := Int32.ofInt 3) eX11_kidKind_6 rfl ?_
  refine q_bi (v := Int32.ofInt 40) eX11_kidKind_7 rfl ?_
  refine q_iload_n eX11_kidKind_9 rfl ?_
  refine z_imul eX11_kidKind_10 ?_
  have r1 := h.1
  have h := h.2
  refine q_iload_n eX11_kidKind_11 rfl ?_
  refine z_iadd eX11_kidKind_12 ?_
  have r2 := h.1
  have h := h.2
  refine z_imul eX11_kidKind_13 ?_
  have r3 := h.1
  have h := h.2
  refine q_iload eX11_kidKind_14 rfl ?_
  refine z_iadd eX11_kidKind_16 ?_
  have r4 := h.1
  have h := h.2
  have f5 := h.1
  have h := h.2
  refine z_iald (n := 720) eX11_kidKind_17 rfl (ofz r4) f5 ?_
  refine q_topI (v := Int32.ofInt (s.1 152 ((3 * ((40 * p) + u)) + w))) rfl ?_
  have f7 := h.1
  have h := h.2
  refine q_V2 (ci := 11) (n := 0) eX11_kidKind_18 DX11_kindOf lX11_415 rfl (by decide) rfl rfl rfl rfl (p_X11_kindOf f7 hA hrq (hA _ _)) ?_
  rintro _ _ ⟨r6, rfl, rfl⟩
  exact q_iret eX11_kidKind_21 rfl ⟨_, _, rfl, hA, r6, rfl, h⟩
def F_X11_kidKind (s : ST) (p : Int) (q : Int) (u : Int) (w : Int) : Int := ((s.1 172 q + (s.1 152 ((3 * ((40 * p) + u)) + w))) - s.1 170 q)
abbrev P_X11_kidKind (s : ST) (p : Int) (q : Int) (u : Int) (w : Int) : Prop := (R32 (40 * p) ∧ R32 ((40 * p) + u) ∧ R32 (3 * ((40 * p) + u)) ∧ R32 ((3 * ((40 * p) + u)) + w) ∧ ((0 : Int) ≤ ((3 * ((40 * p) + u)) + w) ∧ ((3 * ((40 * p) + u)) + w) < 720) ∧ P_X11_kindOf s q (s.1 152 ((3 * ((40 * p) + u)) + w)))
theorem w_X11_kidKind {s : ST} {p : Int} {q : Int} {u : Int} {w : Int} (h : P_X11_kidKind s p q u w) : C_X11_kidKind s p q u w (fun s' v => s' = s ∧ v = F_X11_kidKind s p q u w) := by
  refine s_X11_kidKind (fun hA hrp hrq hru hrw => ?_)
  unfold P_X11_kidKind at h
  refine ⟨h.1, ?_⟩
  have h := h.2
  refine ⟨h.1, ?_⟩
  have h := h.2
  refine ⟨h.1, ?_⟩
  have h := h.2
  refine ⟨h.1, ?_⟩
  have h := h.2
  refine ⟨h.1, ?_⟩
  have h := h.2
  refine ⟨h, ?_⟩
  exact ⟨rfl, rfl⟩
theorem p_X11_kidKind {s : ST} {p : Int} {q : Int} {u : Int} {w : Int} (h : P_X11_kidKind s p q u w) : RA s → R32 p → R32 q → R32 u → R32 w → q_met mX11_kidKind (qs layM s) [.ref 139, .int (Int32.ofInt p), .int (Int32.ofInt q), .int (Int32.ofInt u), .int (Int32.ofInt w)] (fun σ r => R32 (F_X11_kidKind s p q u w) ∧ σ = qs layM s ∧ r = some (.int (Int32.ofInt (F_X11_kidKind s p q u w)))) := fun hA hrp hrq hru hrw => q_met.mono ((w_X11_kidKind h).1 hA hrp hrq hru hrw) (by
  rintro _ _ ⟨s1, v1, rfl, h1, h2, rfl, rfl, rfl⟩
  exact ⟨h2, rfl, rfl⟩)
theorem eX11_layOf_0 : decode cX11_layOf 0 = .ok (.iload_n 2, 1) := by decide +kernel
theorem eX11_layOf_1 : decode cX11_layOf 1 = .ok (.istore 4, 2) := by decide +kernel
theorem eX11_layOf_3 : decode cX11_layOf 3 = .ok (.iload_n 3, 1) := by decide +kernel
theorem eX11_layOf_4 : decode cX11_layOf 4 = .ok (.aload_n 0, 1) := by decide +kernel
theorem eX11_layOf_5 : decode cX11_layOf 5 = .ok (.getfield 106, 3) := by decide +kernel
theorem eX11_layOf_8 : decode cX11_layOf 8 = .ok (.iload 4, 2) := by decide +kernel
theorem eX11_layOf_10 : decode cX11_layOf 10 = .ok (.iaload, 1) := by decide +kernel
theorem eX11_layOf_11 : decode cX11_layOf 11 = .ok (.if_icmp .lt 24, 3) := by decide +kernel
theorem eX11_layOf_14 : decode cX11_layOf 14 = .ok (.iload_n 3, 1) := by decide +kernel
theorem eX11_layOf_15 : decode cX11_layOf 15 = .ok (.aload_n 0, 1) := by decide +kernel
theorem eX11_layOf_16 : decode cX11_layOf 16 = .ok (.getfield 45, 3) := by decide +kernel
theorem eX11_layOf_19 : decode cX11_layOf 19 = .ok (.bipush 40, 2) := by decide +kernel
theorem eX11_layOf_21 : decode cX11_layOf 21 = .ok (.iload_n 1, 1) := by decide +kernel
theorem eX11_layOf_22 : decode cX11_layOf 22 = .ok (.imul, 1) := by decide +kernel
theorem eX11_layOf_23 : decode cX11_layOf 23 = .ok (.aload_n 0, 1) := by decide +kernel
theorem eX11_layOf_24 : decode cX11_layOf 24 = .ok (.getfield 106, 3) := by decide +kernel
theorem eX11_layOf_27 : decode cX11_layOf 27 = .ok (.iload 4, 2) := by decide +kernel
theorem eX11_layOf_29 : decode cX11_layOf 29 = .ok (.iaload, 1) := by decide +kernel
theorem eX11_layOf_30 : decode cX11_layOf 30 = .ok (.iadd, 1) := by decide +kernel
theorem eX11_layOf_31 : decode cX11_layOf 31 = .ok (.iaload, 1) := by decide +kernel
theorem eX11_layOf_32 : decode cX11_layOf 32 = .ok (.if_icmp .le 15, 3) := by decide +kernel
theorem eX11_layOf_35 : decode cX11_layOf 35 = .ok (.aload_n 0, 1) := by decide +kernel
theorem eX11_layOf_36 : decode cX11_layOf 36 = .ok (.getfield 109, 3) := by decide +kernel
theorem eX11_layOf_39 : decode cX11_layOf 39 = .ok (.iload 4, 2) := by decide +kernel
theorem eX11_layOf_41 : decode cX11_layOf 41 = .ok (.iaload, 1) := by decide +kernel
theorem eX11_layOf_42 : decode cX11_layOf 42 = .ok (.istore 4, 2) := by decide +kernel
theorem eX11_layOf_44 : decode cX11_layOf 44 = .ok (.goto (-41), 3) := by decide +kernel
theorem eX11_layOf_47 : decode cX11_layOf 47 = .ok (.iload 4, 2) := by decide +kernel
theorem eX11_layOf_49 : decode cX11_layOf 49 = .ok (.ireturn, 1) := by decide +kernel
def C_X11_layOf (s : ST) (p : Int) (q : Int) (u : Int) (Q : ST → Int → Prop) : Prop := bx <| RA s → R32 p → R32 q → R32 u → q_met mX11_layOf (qs layM s) [.ref 139, .int (Int32.ofInt p), .int (Int32.ofInt q), .int (Int32.ofInt u)] (PI layM Q)
theorem C_X11_layOf.mono {s : ST} {p : Int} {q : Int} {u : Int} {Q Q' : ST → Int → Prop} (h : C_X11_layOf s p q u Q) (hq : ∀ s v, Q s v → Q' s v) : C_X11_layOf s p q u Q' := ⟨fun hA hrp hrq hru => q_met.mono (h.1 hA hrp hrq hru) (fun _ _ => PI.mono hq), trivial⟩
def K_X11_layOf_35 (s : ST) (a1 : Int) (a3 : Int) (a4 : Int) (Q : ST → Int → Prop) : Prop := bx <| RA s → R32 a1 → R32 a3 → R32 a4 → q_K mX11_layOf (qs layM s) 0 0 35 [(0, .ref 139), (1, .int (Int32.ofInt a1)), (3, .int (Int32.ofInt a3)), (4, .int (Int32.ofInt a4))] [] (q_fin mX11_layOf (PI layM Q))
def K_X11_layOf_3 (s : ST) (a1 : Int) (a3 : Int) (a4 : Int) (Q : ST → Int → Prop) : Prop := bx <| RA s → R32 a1 → R32 a3 → R32 a4 → q_K mX11_layOf (qs layM s) 0 0 3 [(0, .ref 139), (1, .int (Int32.ofInt a1)), (3, .int (Int32.ofInt a3)), (4, .int (Int32.ofInt a4))] [] (q_fin mX11_layOf (PI layM Q))
set_option maxRecDepth 20000 in
theorem s_X11_layOf_35 {s : ST} {a1 : Int} {a3 : Int} {a4 : Int} {Q : ST → Int → Prop} (h : RA s → R32 a1 → R32 a3 → R32 a4 → (((0 : Int) ≤ a4 ∧ a4 < 420) ∧ K_X11_layOf_3 s a1 a3 (s.1 171 a4) Q)) : K_X11_layOf_35 s a1 a3 a4 Q := by
  refine ⟨?_, trivial⟩
  intro hA hra1 hra3 hra4
  have h := h hA hra1 hra3 hra4
  refine q_aload_n eX11_layOf_35 rfl ?_
  refine q_getR (c := 11) (n := 0) (k := 43) (a := 171) eX11_layOf_36 rfl (by decide) (by decide) fX11_109 rfl rfl ?_
  refine q_iload eX11_layOf_39 rfl ?_
  have f1 := h.1
  have h := h.2
  refine z_iald (n := 420) eX11_layOf_41 rfl (ofz hra4) f1 ?_
  refine q_topI (v := Int32.ofInt (s.1 171 a4)) rfl ?_
  refine q_istore eX11_layOf_42 (Nat.le_of_ble_eq_true rfl) ?_
  refine q_goto (tgt := 3) eX11_layOf_44 (by decide) ?_
  exact q_subL rfl (h.1 hA hra1 hra3 (hA _ _))
set_option maxRecDepth 20000 in
theorem s_X11_layOf_3 {s : ST} {a1 : Int} {a3 : Int} {a4 : Int} {Q : ST → Int → Prop} (h : RA s → R32 a1 → R32 a3 → R32 a4 → (((0 : Int) ≤ a4 ∧ a4 < 420) ∧ ((a3 < s.1 170 a4 → K_X11_layOf_35 s a1 a3 a4 Q) ∧ (¬ a3 < s.1 170 a4 → (R32 (40 * a1) ∧ (R32 ((40 * a1) + s.1 170 a4) ∧ (((0 : Int) ≤ ((40 * a1) + s.1 170 a4) ∧ ((40 * a1) + s.1 170 a4) < 240) ∧ ((a3 ≤ s.1 150 ((40 * a1) + s.1 170 a4) → Q s a4) ∧ (¬ a3 ≤ s.1 150 ((40 * a1) + s.1 170 a4) → K_X11_layOf_35 s a1 a3 a4 Q))))))))) : K_X11_layOf_3 s a1 a3 a4 Q := by
  refine ⟨?_, trivial⟩
  intro hA hra1 hra3 hra4
  have h := h hA hra1 hra3 hra4
  refine q_iload_n eX11_layOf_3 rfl ?_
  refine q_aload_n eX11_layOf_4 rfl ?_
  refine q_getR (c := 11) (n := 0) (k := 42) (a := 170) eX11_layOf_5 rfl (by decide) (by decide) fX11_106 rfl rfl ?_
  refine q_iload eX11_layOf_8 rfl ?_
  have f1 := h.1
  have h := h.2
  refine z_iald (n := 420) eX11_layOf_10 rfl (ofz hra4) f1 ?_
  refine q_topI (v := Int32.ofInt (s.1 170 a4)) rfl ?_
  refine q_cz_lt (tgt := 35) (a := a3) (b := s.1 170 a4) eX11_layOf_11 (by decide) (ofz hra3) (ofz (hA _ _)) (fun c11 => ?_) (fun c11 => ?_)
  · have h := h.1 c11
    exact q_subL rfl (h.1 hA hra1 hra3 hra4)
  · have h := h.2 c11
    refine q_iload_n eX11_layOf_14 rfl ?_
    refine q_aload_n eX11_layOf_15 rfl ?_
    refine q_getR (c := 11) (n := 0) (k := 19) (a := 150) eX11_layOf_16 rfl (by decide) (by decide) fX11_45 rfl rfl ?_
    refine q_bi (v := Int32.ofInt 40) eX11_layOf_19 rfl ?_
    refine q_iload_n eX11_layOf_21 rfl ?_
    refine z_imul eX11_layOf_22 ?_
    have r2 := h.1
    have h := h.2
    refine q_aload_n eX11_layOf_23 rfl ?_
    refine q_getR (c := 11) (n := 0) (k := 42) (a := 170) eX11_layOf_24 rfl (by decide) (by decide) fX11_106 rfl rfl ?_
    refine q_iload eX11_layOf_27 rfl ?_
    refine z_iald (n := 420) eX11_layOf_29 rfl (ofz hra4) f1 ?_
    refine q_topI (v := Int32.ofInt (s.1 170 a4)) rfl ?_
    refine z_iadd eX11_layOf_30 ?_
    have r3 := h.1
    have h := h.2
    have f4 := h.1
    have h := h.2
    refine z_iald (n := 240) eX11_layOf_31 rfl (ofz r3) f4 ?_
    refine q_topI (v := Int32.ofInt (s.1 150 ((40 * a1) + s.1 170 a4))) rfl ?_
    refine q_cz_le (tgt := 47) (a := a3) (b := s.1 150 ((40 * a1) + s.1 170 a4)) eX11_layOf_32 (by decide) (ofz hra3) (ofz (hA _ _)) (fun c32 => ?_) (fun c32 => ?_)
    · have h := h.1 c32
      refine q_iload eX11_layOf_47 rfl ?_
      exact q_iret eX11_layOf_49 rfl ⟨_, _, rfl, hA, hra4, rfl, h⟩
    · have h := h.2 c32
      exact q_subL rfl (h.1 hA hra1 hra3 hra4)
set_option maxRecDepth 20000 in
theorem s_X11_layOf {s : ST} {p : Int} {q : Int} {u : Int} {Q : ST → Int → Prop} (h : RA s → R32 p → R32 q → R32 u → K_X11_layOf_3 s p u q Q) : C_X11_layOf s p q u Q := by
  refine ⟨?_, trivial⟩
  intro hA hrp hrq hru
  have h := h hA hrp hrq hru
  refine q_enter (by decide) (Nat.le_of_ble_eq_true rfl) ?_
  refine q_iload_n eX11_layOf_0 rfl ?_
  refine q_istore eX11_layOf_1 (Nat.le_of_ble_eq_true rfl) ?_
  exact q_subL rfl (h.1 hA hrp hru hrq)
theorem eX11_layName_0 : decode cX11_layName 0 = .ok (.aload_n 0, 1) := by decide +kernel
theorem eX11_layName_1 : decode cX11_layName 1 = .ok (.iload_n 1, 1) := by decide +kernel
theorem eX11_layName_2 : decode cX11_layName 2 = .ok (.iload_n 3, 1) := by decide +kernel
theorem eX11_layName_3 : decode cX11_layName 3 = .ok (.invokevirtual 372, 3) := by decide +kernel
theorem eX11_layName_6 : decode cX11_layName 6 = .ok (.istore 4, 2) := by decide +kernel
theorem eX11_layName_8 : decode cX11_layName 8 = .ok (.aload_n 0, 1) := by decide +kernel
theorem eX11_layName_9 : decode cX11_layName 9 = .ok (.getfield 54, 3) := by decide +kernel
theorem eX11_layName_12 : decode cX11_layName 12 = .ok (.bipush 40, 2) := by decide +kernel
theorem eX11_layName_14 : decode cX11_layName 14 = .ok (.iload_n 1, 1) := by decide +kernel
theorem eX11_layName_15 : decode cX11_layName 15 = .ok (.imul, 1) := by decide +kernel
theorem eX11_layName_16 : decode cX11_layName 16 = .ok (.iload_n 3, 1) := by decide +kernel
theorem eX11_layName_17 : decode cX11_layName 17 = .ok (.iadd, 1) := by decide +kernel
theorem eX11_layName_18 : decode cX11_layName 18 = .ok (.iaload, 1) := by decide +kernel
theorem eX11_layName_19 : decode cX11_layName 19 = .ok (.istore 5, 2) := by decide +kernel
theorem eX11_layName_21 : decode cX11_layName 21 = .ok (.iload 4, 2) := by decide +kernel
theorem eX11_layName_23 : decode cX11_layName 23 = .ok (.ifCond .ge 43, 3) := by decide +kernel
theorem eX11_layName_26 : decode cX11_layName 26 = .ok (.aload_n 0, 1) := by decide +kernel
theorem eX11_layName_27 : decode cX11_layName 27 = .ok (.iload_n 1, 1) := by decide +kernel
theorem eX11_layName_28 : decode cX11_layName 28 = .ok (.iload_n 2, 1) := by decide +kernel
theorem eX11_layName_29 : decode cX11_layName 29 = .ok (.iload 5, 2) := by decide +kernel
theorem eX11_layName_31 : decode cX11_layName 31 = .ok (.invokevirtual 435, 3) := by decide +kernel
theorem eX11_layName_34 : decode cX11_layName 34 = .ok (.istore 6, 2) := by decide +kernel
theorem eX11_layName_36 : decode cX11_layName 36 = .ok (.aload_n 0, 1) := by decide +kernel
theorem eX11_layName_37 : decode cX11_layName 37 = .ok (.iload_n 3, 1) := by decide +kernel
theorem eX11_layName_38 : decode cX11_layName 38 = .ok (.aload_n 0, 1) := by decide +kernel
theorem eX11_layName_39 : decode cX11_layName 39 = .ok (.iload_n 2, 1) := by decide +kernel
theorem eX11_layName_40 : decode cX11_layName 40 = .ok (.iload_n 3, 1) := by decide +kernel
theorem eX11_layName_41 : decode cX11_layName 41 = .ok (.invokevirtual 415, 3) := by decide +kernel
theorem eX11_layName_44 : decode cX11_layName 44 = .ok (.aload_n 0, 1) := by decide +kernel
theorem eX11_layName_45 : decode cX11_layName 45 = .ok (.getfield 115, 3) := by decide +kernel
theorem eX11_layName_48 : decode cX11_layName 48 = .ok (.iload 6, 2) := by decide +kernel
theorem eX11_layName_50 : decode cX11_layName 50 = .ok (.iaload, 1) := by decide +kernel
theorem eX11_layName_51 : decode cX11_layName 51 = .ok (.iload 5, 2) := by decide +kernel
theorem eX11_layName_53 : decode cX11_layName 53 = .ok (.iadd, 1) := by decide +kernel
theorem eX11_layName_54 : decode cX11_layName 54 = .ok (.aload_n 0, 1) := by decide +kernel
theorem eX11_layName_55 : decode cX11_layName 55 = .ok (.getfield 106, 3) := by decide +kernel
theorem eX11_layName_58 : decode cX11_layName 58 = .ok (.iload 6, 2) := by decide +kernel
theorem eX11_layName_60 : decode cX11_layName 60 = .ok (.iaload, 1) := by decide +kernel
theorem eX11_layName_61 : decode cX11_layName 61 = .ok (.isub, 1) := by decide +kernel
theorem eX11_layName_62 : decode cX11_layName 62 = .ok (.invokevirtual 422, 3) := by decide +kernel
theorem eX11_layName_65 : decode cX11_layName 65 = .ok (.return_, 1) := by decide +kernel
theorem eX11_layName_66 : decode cX11_layName 66 = .ok (.aload_n 0, 1) := by decide +kernel
theorem eX11_layName_67 : decode cX11_layName 67 = .ok (.iload_n 1, 1) := by decide +kernel
theorem eX11_layName_68 : decode cX11_layName 68 = .ok (.iload 4, 2) := by decide +kernel
theorem eX11_layName_70 : decode cX11_layName 70 = .ok (.iload 5, 2) := by decide +kernel
theorem eX11_layName_72 : decode cX11_layName 72 = .ok (.bipush 100, 2) := by decide +kernel
theorem eX11_layName_74 : decode cX11_layName 74 = .ok (.if_icmp .lt 7, 3) := by decide +kernel
theorem eX11_layName_77 : decode cX11_layName 77 = .ok (.iconst (-1), 1) := by decide +kernel
theorem eX11_layName_78 : decode cX11_layName 78 = .ok (.goto 11, 3) := by decide +kernel
theorem eX11_layName_81 : decode cX11_layName 81 = .ok (.aload_n 0, 1) := by decide +kernel
theorem eX11_layName_82 : decode cX11_layName 82 = .ok (.iload_n 1, 1) := by decide +kernel
theorem eX11_layName_83 : decode cX11_layName 83 = .ok (.iload_n 2, 1) := by decide +kernel
theorem eX11_layName_84 : decode cX11_layName 84 = .ok (.iload 5, 2) := by decide +kernel
theorem eX11_layName_86 : decode cX11_layName 86 = .ok (.invokevirtual 435, 3) := by decide +kernel
theorem eX11_layName_89 : decode cX11_layName 89 = .ok (.invokevirtual 408, 3) := by decide +kernel
theorem eX11_layName_92 : decode cX11_layName 92 = .ok (.istore 6, 2) := by decide +kernel
theorem eX11_layName_94 : decode cX11_layName 94 = .ok (.aload_n 0, 1) := by decide +kernel
theorem eX11_layName_95 : decode cX11_layName 95 = .ok (.iload_n 3, 1) := by decide +kernel
theorem eX11_layName_96 : decode cX11_layName 96 = .ok (.aload_n 0, 1) := by decide +kernel
theorem eX11_layName_97 : decode cX11_layName 97 = .ok (.iload_n 2, 1) := by decide +kernel
theorem eX11_layName_98 : decode cX11_layName 98 = .ok (.iload_n 3, 1) := by decide +kernel
theorem eX11_layName_99 : decode cX11_layName 99 = .ok (.invokevirtual 415, 3) := by decide +kernel
theorem eX11_layName_102 : decode cX11_layName 102 = .ok (.aload_n 0, 1) := by decide +kernel
theorem eX11_layName_103 : decode cX11_layName 103 = .ok (.iload 6, 2) := by decide +kernel
theorem eX11_layName_105 : decode cX11_layName 105 = .ok (.iload 4, 2) := by decide +kernel
theorem eX11_layName_107 : decode cX11_layName 107 = .ok (.invokevirtual 415, 3) := by decide +kernel
theorem eX11_layName_110 : decode cX11_layName 110 = .ok (.invokevirtual 422, 3) := by decide +kernel
theorem eX11_layName_113 : decode cX11_layName 113 = .ok (.return_, 1) := by decide +kernel
def C_X11_layName (s : ST) (p : Int) (q : Int) (u : Int) (Q : ST → Prop) : Prop := bx <| RA s → R32 p → R32 q → R32 u → q_met mX11_layName (qs layM s) [.ref 139, .int (Int32.ofInt p), .int (Int32.ofInt q), .int (Int32.ofInt u)] (PV layM Q)
theorem C_X11_layName.mono {s : ST} {p : Int} {q : Int} {u : Int} {Q Q' : ST → Prop} (h : C_X11_layName s p q u Q) (hq : ∀ s, Q s → Q' s) : C_X11_layName s p q u Q' := ⟨fun hA hrp hrq hru => q_met.mono (h.1 hA hrp hrq hru) (fun _ _ => PV.mono hq), trivial⟩
def K_X11_layName_89 (s : ST) (a2 : Int) (a3 : Int) (a4 : Int) (t1 : Int) (t2 : Int) (t3 : Int) (Q : ST → Prop) : Prop := bx <| RA s → R32 a2 → R32 a3 → R32 a4 → R32 t1 → R32 t2 → R32 t3 → q_K mX11_layName (qs layM s) 0 0 89 [(0, .ref 139), (2, .int (Int32.ofInt a2)), (3, .int (Int32.ofInt a3)), (4, .int (Int32.ofInt a4))] [.int (Int32.ofInt t3), .int (Int32.ofInt t2), .int (Int32.ofInt t1), .ref 139] (q_fin mX11_layName (PV layM Q))
set_option maxRecDepth 20000 in
theorem s_X11_layName_89 {s : ST} {a2 : Int} {a3 : Int} {a4 : Int} {t1 : Int} {t2 : Int} {t3 : Int} {Q : ST → Prop} (h : RA s → R32 a2 → R32 a3 → R32 a4 → R32 t1 → R32 t2 → R32 t3 → (C_X11_beginsLay s t1 t2 t3 (fun s1 v1 => (P_X11_kindOf s1 a2 a3 ∧ (P_X11_kindOf s1 v1 a4 ∧ (C_X11_ask s1 a3 ((s1.1 172 a2 + a3) - s1.1 170 a2) ((s1.1 172 v1 + a4) - s1.1 170 v1) (fun s6 => Q s6))))))) : K_X11_layName_89 s a2 a3 a4 t1 t2 t3 Q := by
  refine ⟨?_, trivial⟩
  intro hA hra2 hra3 hra4 hrt1 hrt2 hrt3
  have h := h hA hra2 hra3 hra4 hrt1 hrt2 hrt3
  refine q_V3 (ci := 11) (n := 0) eX11_layName_89 DX11_beginsLay lX11_408 rfl (by decide) rfl rfl rfl rfl (h.1 hA hrt1 hrt2 hrt3) ?_
  rintro _ _ ⟨s1, v1, rfl, hA1, r1, rfl, h⟩
  refine q_istore eX11_layName_92 (Nat.le_of_ble_eq_true rfl) ?_
  refine q_aload_n eX11_layName_94 rfl ?_
  refine q_iload_n eX11_layName_95 rfl ?_
  refine q_aload_n eX11_layName_96 rfl ?_
  refine q_iload_n eX11_layName_97 rfl ?_
  refine q_iload_n eX11_layName_98 rfl ?_
  have f3 := h.1
  have h := h.2
  refine q_V2 (ci := 11) (n := 0) eX11_layName_99 DX11_kindOf lX11_415 rfl (by decide) rfl rfl rfl rfl (p_X11_kindOf f3 hA1 hra2 hra3) ?_
  rintro _ _ ⟨r2, rfl, rfl⟩
  refine q_aload_n eX11_layName_102 rfl ?_
  refine q_iload eX11_layName_103 rfl ?_
  refine q_iload eX11_layName_105 rfl ?_
  have f5 := h.1
  have h := h.2
  refine q_V2 (ci := 11) (n := 0) eX11_layName_107 DX11_kindOf lX11_415 rfl (by decide) rfl rfl rfl rfl (p_X11_kindOf f5 hA1 r1 hra4) ?_
  rintro _ _ ⟨r4, rfl, rfl⟩
  refine q_V3 (ci := 11) (n := 0) eX11_layName_110 DX11_ask lX11_422 rfl (by decide) rfl rfl rfl rfl (h.1 hA1 hra3 r2 r4) ?_
  rintro _ _ ⟨s6, rfl, hA6, rfl, h⟩
  exact q_ret eX11_layName_113 rfl ⟨_, rfl, hA6, rfl, h⟩
set_option maxRecDepth 20000 in
theorem s_X11_layName {s : ST} {p : Int} {q : Int} {u : Int} {Q : ST → Prop} (h : RA s → R32 p → R32 q → R32 u → (P_X11_rootOf s p u ∧ (R32 (40 * p) ∧ (R32 ((40 * p) + u) ∧ (((0 : Int) ≤ ((40 * p) + u) ∧ ((40 * p) + u) < 240) ∧ ((0 ≤ (F_X11_rootOf s p u) → ((s.1 153 ((40 * p) + u) < 100 → (C_X11_layOf s p q (s.1 153 ((40 * p) + u)) (fun s6 v6 => K_X11_layName_89 s6 q u (F_X11_rootOf s p u) p (F_X11_rootOf s p u) v6 Q))) ∧ (¬ s.1 153 ((40 * p) + u) < 100 → K_X11_layName_89 s q u (F_X11_rootOf s p u) p (F_X11_rootOf s p u) (-1) Q))) ∧ (¬ 0 ≤ (F_X11_rootOf s p u) → (C_X11_layOf s p q (s.1 153 ((40 * p) + u)) (fun s7 v7 => (P_X11_kindOf s7 q u ∧ (((0 : Int) ≤ v7 ∧ v7 < 420) ∧ (R32 (s7.1 173 v7 + s.1 153 ((40 * p) + u)) ∧ (R32 ((s7.1 173 v7 + s.1 153 ((40 * p) + u)) - s7.1 170 v7) ∧ (C_X11_ask s7 u ((s7.1 172 q + u) - s7.1 170 q) ((s7.1 173 v7 + s.1 153 ((40 * p) + u)) - s7.1 170 v7) (fun s13 => Q s13))))))))))))))) : C_X11_layName s p q u Q := by
  refine ⟨?_, trivial⟩
  intro hA hrp hrq hru
  have h := h hA hrp hrq hru
  refine q_enter (by decide) (Nat.le_of_ble_eq_true rfl) ?_
  refine q_aload_n eX11_layName_0 rfl ?_
  refine q_iload_n eX11_layName_1 rfl ?_
  refine q_iload_n eX11_layName_2 rfl ?_
  have f2 := h.1
  have h := h.2
  refine q_V2 (ci := 11) (n := 0) eX11_layName_3 DX11_rootOf lX11_372 rfl (by decide) rfl rfl rfl rfl (p_X11_rootOf f2 hA hrp hru) ?_
  rintro _ _ ⟨r1, rfl, rfl⟩
  refine q_istore eX11_layName_6 (Nat.le_of_ble_eq_true rfl) ?_
  refine q_aload_n eX11_layName_8 rfl ?_
  refine q_getR (c := 11) (n := 0) (k := 22) (a := 153) eX11_layName_9 rfl (by decide) (by decide) fX11_54 rfl rfl ?_
  refine q_bi (v := Int32.ofInt 40) eX11_layName_12 rfl ?_
  refine q_iload_n eX11_layName_14 rfl ?_
  refine z_imul eX11_layName_15 ?_
  have r3 := h.1
  have h := h.2
  refine q_iload_n eX11_layName_16 rfl ?_
  refine z_iadd eX11_layName_17 ?_
  have r4 := h.1
  have h := h.2
  have f5 := h.1
  have h := h.2
  refine z_iald (n := 240) eX11_layName_18 rfl (ofz r4) f5 ?_
  refine q_topI (v := Int32.ofInt (s.1 153 ((40 * p) + u))) rfl ?_
  refine q_istore eX11_layName_19 (Nat.le_of_ble_eq_true rfl) ?_
  refine q_iload eX11_layName_21 rfl ?_
  refine q_iz_ge (tgt := 66) (a := (F_X11_rootOf s p u)) eX11_layName_23 (by decide) (ofz r1) (fun c23 => ?_) (fun c23 => ?_)
  · have h := h.1 c23
    refine q_aload_n eX11_layName_66 rfl ?_
    refine q_iload_n eX11_layName_67 rfl ?_
    refine q_iload eX11_layName_68 rfl ?_
    refine q_iload eX11_layName_70 rfl ?_
    refine q_bi (v := Int32.ofInt 100) eX11_layName_72 rfl ?_
    refine q_cz_lt (tgt := 81) (a := s.1 153 ((40 * p) + u)) (b := 100) eX11_layName_74 (by decide) (ofz (hA _ _)) (ofz (r32l rfl)) (fun c74 => ?_) (fun c74 => ?_)
    · have h := h.1 c74
      refine q_aload_n eX11_layName_81 rfl ?_
      refine q_iload_n eX11_layName_82 rfl ?_
      refine q_iload_n eX11_layName_83 rfl ?_
      refine q_iload eX11_layName_84 rfl ?_
      refine q_V3 (ci := 11) (n := 0) eX11_layName_86 DX11_layOf lX11_435 rfl (by decide) rfl rfl rfl rfl (h.1 hA hrp hrq (hA _ _)) ?_
      rintro _ _ ⟨s6, v6, rfl, hA6, r6, rfl, h⟩
      exact q_subL rfl (h.1 hA6 hrq hru r1 hrp r1 r6)
    · have h := h.2 c74
      refine q_ic (v := Int32.ofInt (-1)) eX11_layName_77 rfl ?_
      refine q_goto (tgt := 89) eX11_layName_78 (by decide) ?_
      exact q_subL rfl (h.1 hA hrq hru r1 hrp r1 (r32l rfl))
  · have h := h.2 c23
    refine q_aload_n eX11_layName_26 rfl ?_
    refine q_iload_n eX11_layName_27 rfl ?_
    refine q_iload_n eX11_layName_28 rfl ?_
    refine q_iload eX11_layName_29 rfl ?_
    refine q_V3 (ci := 11) (n := 0) eX11_layName_31 DX11_layOf lX11_435 rfl (by decide) rfl rfl rfl rfl (h.1 hA hrp hrq (hA _ _)) ?_
    rintro _ _ ⟨s7, v7, rfl, hA7, r7, rfl, h⟩
    refine q_istore eX11_layName_34 (Nat.le_of_ble_eq_true rfl) ?_
    refine q_aload_n eX11_layName_36 rfl ?_
    refine q_iload_n eX11_layName_37 rfl ?_
    refine q_aload_n eX11_layName_38 rfl ?_
    refine q_iload_n eX11_layName_39 rfl ?_
    refine q_iload_n eX11_layName_40 rfl ?_
    have f9 := h.1
    have h := h.2
    refine q_V2 (ci := 11) (n := 0) eX11_layName_41 DX11_kindOf lX11_415 rfl (by decide) rfl rfl rfl rfl (p_X11_kindOf f9 hA7 hrq hru) ?_
    rintro _ _ ⟨r8, rfl, rfl⟩
    refine q_aload_n eX11_layName_44 rfl ?_
    refine q_getR (c := 11) (n := 0) (k := 45) (a := 173) eX11_layName_45 rfl (by decide) (by decide) fX11_115 rfl rfl ?_
    refine q_iload eX11_layName_48 rfl ?_
    have f10 := h.1
    have h := h.2
    refine z_iald (n := 420) eX11_layName_50 rfl (ofz r7) f10 ?_
    refine q_topI (v := Int32.ofInt (s7.1 173 v7)) rfl ?_
    refine q_iload eX11_layName_51 rfl ?_
    refine z_iadd eX11_layName_53 ?_
    have r11 := h.1
    have h := h.2
    refine q_aload_n eX11_layName_54 rfl ?_
    refine q_getR (c := 11) (n := 0) (k := 42) (a := 170) eX11_layName_55 rfl (by decide) (by decide) fX11_106 rfl rfl ?_
    refine q_iload eX11_layName_58 rfl ?_
    refine z_iald (n := 420) eX11_layName_60 rfl (ofz r7) f10 ?_
    refine q_topI (v := Int32.ofInt (s7.1 170 v7)) rfl ?_
    refine z_isub eX11_layName_61 ?_
    have r12 := h.1
    have h := h.2
    refine q_V3 (ci := 11) (n := 0) eX11_layName_62 DX11_ask lX11_422 rfl (by decide) rfl rfl rfl rfl (h.1 hA7 hru r8 r12) ?_
    rintro _ _ ⟨s13, rfl, hA13, rfl, h⟩
    exact q_ret eX11_layName_65 rfl ⟨_, rfl, hA13, rfl, h⟩
theorem eX11_toldKind_0 : decode cX11_toldKind 0 = .ok (.bipush 40, 2) := by decide +kernel
theorem eX11_toldKind_2 : decode cX11_toldKind 2 = .ok (.iload_n 1, 1) := by decide +kernel
theorem eX11_toldKind_3 : decode cX11_toldKind 3 = .ok (.imul, 1) := by decide +kernel
theorem eX11_toldKind_4 : decode cX11_toldKind 4 = .ok (.iload_n 2, 1) := by decide +kernel
theorem eX11_toldKind_5 : decode cX11_toldKind 5 = .ok (.iadd, 1) := by decide +kernel
theorem eX11_toldKind_6 : decode cX11_toldKind 6 = .ok (.istore_n 3, 1) := by decide +kernel
theorem eX11_toldKind_7 : decode cX11_toldKind 7 = .ok (.iconst 0, 1) := by decide +kernel
theorem eX11_toldKind_8 : decode cX11_toldKind 8 = .ok (.istore 4, 2) := by decide +kernel
theorem eX11_toldKind_10 : decode cX11_toldKind 10 = .ok (.aload_n 0, 1) := by decide +kernel
theorem eX11_toldKind_11 : decode cX11_toldKind 11 = .ok (.getfield 57, 3) := by decide +kernel
theorem eX11_toldKind_14 : decode cX11_toldKind 14 = .ok (.iload_n 3, 1) := by decide +kernel
theorem eX11_toldKind_15 : decode cX11_toldKind 15 = .ok (.iaload, 1) := by decide +kernel
theorem eX11_toldKind_16 : decode cX11_toldKind 16 = .ok (.aload_n 0, 1) := by decide +kernel
theorem eX11_toldKind_17 : decode cX11_toldKind 17 = .ok (.getfield 60, 3) := by decide +kernel
theorem eX11_toldKind_20 : decode cX11_toldKind 20 = .ok (.iload_n 3, 1) := by decide +kernel
theorem eX11_toldKind_21 : decode cX11_toldKind 21 = .ok (.iaload, 1) := by decide +kernel
theorem eX11_toldKind_22 : decode cX11_toldKind 22 = .ok (.iadd, 1) := by decide +kernel
theorem eX11_toldKind_23 : decode cX11_toldKind 23 = .ok (.iconst 1, 1) := by decide +kernel
theorem eX11_toldKind_24 : decode cX11_toldKind 24 = .ok (.isub, 1) := by decide +kernel
theorem eX11_toldKind_25 : decode cX11_toldKind 25 = .ok (.istore 5, 2) := by decide +kernel
theorem eX11_toldKind_27 : decode cX11_toldKind 27 = .ok (.iload 5, 2) := by decide +kernel
theorem eX11_toldKind_29 : decode cX11_toldKind 29 = .ok (.aload_n 0, 1) := by decide +kernel
theorem eX11_toldKind_30 : decode cX11_toldKind 30 = .ok (.getfield 57, 3) := by decide +kernel
theorem eX11_toldKind_33 : decode cX11_toldKind 33 = .ok (.iload_n 3, 1) := by decide +kernel
theorem eX11_toldKind_34 : decode cX11_toldKind 34 = .ok (.iaload, 1) := by decide +kernel
theorem eX11_toldKind_35 : decode cX11_toldKind 35 = .ok (.if_icmp .lt 138, 3) := by decide +kernel
theorem eX11_toldKind_38 : decode cX11_toldKind 38 = .ok (.aload_n 0, 1) := by decide +kernel
theorem eX11_toldKind_39 : decode cX11_toldKind 39 = .ok (.getfield 63, 3) := by decide +kernel
theorem eX11_toldKind_42 : decode cX11_toldKind 42 = .ok (.bipush 20, 2) := by decide +kernel
theorem eX11_toldKind_44 : decode cX11_toldKind 44 = .ok (.iload_n 1, 1) := by decide +kernel
theorem eX11_toldKind_45 : decode cX11_toldKind 45 = .ok (.imul, 1) := by decide +kernel
theorem eX11_toldKind_46 : decode cX11_toldKind 46 = .ok (.iload 5, 2) := by decide +kernel
theorem eX11_toldKind_48 : decode cX11_toldKind 48 = .ok (.iadd, 1) := by decide +kernel
theorem eX11_toldKind_49 : decode cX11_toldKind 49 = .ok (.iaload, 1) := by decide +kernel
theorem eX11_toldKind_50 : decode cX11_toldKind 50 = .ok (.istore 6, 2) := by decide +kernel
theorem eX11_toldKind_52 : decode cX11_toldKind 52 = .ok (.iload 6, 2) := by decide +kernel
theorem eX11_toldKind_54 : decode cX11_toldKind 54 = .ok (.iconst 3, 1) := by decide +kernel
theorem eX11_toldKind_55 : decode cX11_toldKind 55 = .ok (.if_icmp .ge 45, 3) := by decide +kernel
theorem eX11_toldKind_58 : decode cX11_toldKind 58 = .ok (.aload_n 0, 1) := by decide +kernel
theorem eX11_toldKind_59 : decode cX11_toldKind 59 = .ok (.getfield 94, 3) := by decide +kernel
theorem eX11_toldKind_62 : decode cX11_toldKind 62 = .ok (.iload 4, 2) := by decide +kernel
theorem eX11_toldKind_64 : decode cX11_toldKind 64 = .ok (.iload 6, 2) := by decide +kernel
theorem eX11_toldKind_66 : decode cX11_toldKind 66 = .ok (.ifCond .ne 10, 3) := by decide +kernel
theorem eX11_toldKind_69 : decode cX11_toldKind 69 = .ok (.aload_n 0, 1) := by decide +kernel
theorem eX11_toldKind_70 : decode cX11_toldKind 70 = .ok (.getfield 402, 3) := by decide +kernel
theorem eX11_toldKind_73 : decode cX11_toldKind 73 = .ok (.goto 20, 3) := by decide +kernel
theorem eX11_toldKind_76 : decode cX11_toldKind 76 = .ok (.iload 6, 2) := by decide +kernel
theorem eX11_toldKind_78 : decode cX11_toldKind 78 = .ok (.iconst 1, 1) := by decide +kernel
theorem eX11_toldKind_79 : decode cX11_toldKind 79 = .ok (.if_icmp .ne 10, 3) := by decide +kernel
theorem eX11_toldKind_82 : decode cX11_toldKind 82 = .ok (.aload_n 0, 1) := by decide +kernel
theorem eX11_toldKind_83 : decode cX11_toldKind 83 = .ok (.getfield 405, 3) := by decide +kernel
theorem eX11_toldKind_86 : decode cX11_toldKind 86 = .ok (.goto 7, 3) := by decide +kernel
theorem eX11_toldKind_89 : decode cX11_toldKind 89 = .ok (.aload_n 0, 1) := by decide +kernel
theorem eX11_toldKind_90 : decode cX11_toldKind 90 = .ok (.invokevirtual 399, 3) := by decide +kernel
theorem eX11_toldKind_93 : decode cX11_toldKind 93 = .ok (.iastore, 1) := by decide +kernel
theorem eX11_toldKind_94 : decode cX11_toldKind 94 = .ok (.iinc 4 1, 3) := by decide +kernel
theorem eX11_toldKind_97 : decode cX11_toldKind 97 = .ok (.goto 70, 3) := by decide +kernel
theorem eX11_toldKind_100 : decode cX11_toldKind 100 = .ok (.iload 6, 2) := by decide +kernel
theorem eX11_toldKind_102 : decode cX11_toldKind 102 = .ok (.iconst 3, 1) := by decide +kernel
theorem eX11_toldKind_103 : decode cX11_toldKind 103 = .ok (.if_icmp .ne 30, 3) := by decide +kernel
theorem eX11_toldKind_106 : decode cX11_toldKind 106 = .ok (.aload_n 0, 1) := by decide +kernel
theorem eX11_toldKind_107 : decode cX11_toldKind 107 = .ok (.getfield 94, 3) := by decide +kernel
theorem eX11_toldKind_110 : decode cX11_toldKind 110 = .ok (.iload 4, 2) := by decide +kernel
theorem eX11_toldKind_112 : decode cX11_toldKind 112 = .ok (.iconst 1, 1) := by decide +kernel
theorem eX11_toldKind_113 : decode cX11_toldKind 113 = .ok (.isub, 1) := by decide +kernel
theorem eX11_toldKind_114 : decode cX11_toldKind 114 = .ok (.aload_n 0, 1) := by decide +kernel
theorem eX11_toldKind_115 : decode cX11_toldKind 115 = .ok (.iconst 3, 1) := by decide +kernel
theorem eX11_toldKind_116 : decode cX11_toldKind 116 = .ok (.aload_n 0, 1) := by decide +kernel
theorem eX11_toldKind_117 : decode cX11_toldKind 117 = .ok (.getfield 94, 3) := by decide +kernel
theorem eX11_toldKind_120 : decode cX11_toldKind 120 = .ok (.iload 4, 2) := by decide +kernel
theorem eX11_toldKind_122 : decode cX11_toldKind 122 = .ok (.iconst 1, 1) := by decide +kernel
theorem eX11_toldKind_123 : decode cX11_toldKind 123 = .ok (.isub, 1) := by decide +kernel
theorem eX11_toldKind_124 : decode cX11_toldKind 124 = .ok (.iaload, 1) := by decide +kernel
theorem eX11_toldKind_125 : decode cX11_toldKind 125 = .ok (.iconst 0, 1) := by decide +kernel
theorem eX11_toldKind_126 : decode cX11_toldKind 126 = .ok (.invokevirtual 389, 3) := by decide +kernel
theorem eX11_toldKind_129 : decode cX11_toldKind 129 = .ok (.iastore, 1) := by decide +kernel
theorem eX11_toldKind_130 : decode cX11_toldKind 130 = .ok (.goto 37, 3) := by decide +kernel
theorem eX11_toldKind_133 : decode cX11_toldKind 133 = .ok (.iinc 4 (-1), 3) := by decide +kernel
theorem eX11_toldKind_136 : decode cX11_toldKind 136 = .ok (.aload_n 0, 1) := by decide +kernel
theorem eX11_toldKind_137 : decode cX11_toldKind 137 = .ok (.getfield 94, 3) := by decide +kernel
theorem eX11_toldKind_140 : decode cX11_toldKind 140 = .ok (.iload 4, 2) := by decide +kernel
theorem eX11_toldKind_142 : decode cX11_toldKind 142 = .ok (.iconst 1, 1) := by decide +kernel
theorem eX11_toldKind_143 : decode cX11_toldKind 143 = .ok (.isub, 1) := by decide +kernel
theorem eX11_toldKind_144 : decode cX11_toldKind 144 = .ok (.aload_n 0, 1) := by decide +kernel
theorem eX11_toldKind_145 : decode cX11_toldKind 145 = .ok (.iload 6, 2) := by decide +kernel
theorem eX11_toldKind_147 : decode cX11_toldKind 147 = .ok (.aload_n 0, 1) := by decide +kernel
theorem eX11_toldKind_148 : decode cX11_toldKind 148 = .ok (.getfield 94, 3) := by decide +kernel
theorem eX11_toldKind_151 : decode cX11_toldKind 151 = .ok (.iload 4, 2) := by decide +kernel
theorem eX11_toldKind_153 : decode cX11_toldKind 153 = .ok (.iaload, 1) := by decide +kernel
theorem eX11_toldKind_154 : decode cX11_toldKind 154 = .ok (.aload_n 0, 1) := by decide +kernel
theorem eX11_toldKind_155 : decode cX11_toldKind 155 = .ok (.getfield 94, 3) := by decide +kernel
theorem eX11_toldKind_158 : decode cX11_toldKind 158 = .ok (.iload 4, 2) := by decide +kernel
theorem eX11_toldKind_160 : decode cX11_toldKind 160 = .ok (.iconst 1, 1) := by decide +kernel
theorem eX11_toldKind_161 : decode cX11_toldKind 161 = .ok (.isub, 1) := by decide +kernel
theorem eX11_toldKind_162 : decode cX11_toldKind 162 = .ok (.iaload, 1) := by decide +kernel
theorem eX11_toldKind_163 : decode cX11_toldKind 163 = .ok (.invokevirtual 389, 3) := by decide +kernel
theorem eX11_toldKind_166 : decode cX11_toldKind 166 = .ok (.iastore, 1) := by decide +kernel
theorem eX11_toldKind_167 : decode cX11_toldKind 167 = .ok (.iinc 5 (-1), 3) := by decide +kernel
theorem eX11_toldKind_170 : decode cX11_toldKind 170 = .ok (.goto (-143), 3) := by decide +kernel
theorem eX11_toldKind_173 : decode cX11_toldKind 173 = .ok (.aload_n 0, 1) := by decide +kernel
theorem eX11_toldKind_174 : decode cX11_toldKind 174 = .ok (.getfield 94, 3) := by decide +kernel
theorem eX11_toldKind_177 : decode cX11_toldKind 177 = .ok (.iconst 0, 1) := by decide +kernel
theorem eX11_toldKind_178 : decode cX11_toldKind 178 = .ok (.iaload, 1) := by decide +kernel
theorem eX11_toldKind_179 : decode cX11_toldKind 179 = .ok (.ireturn, 1) := by decide +kernel
def C_X11_toldKind (s : ST) (p : Int) (q : Int) (Q : ST → Int → Prop) : Prop := bx <| RA s → R32 p → R32 q → q_met mX11_toldKind (qs layM s) [.ref 139, .int (Int32.ofInt p), .int (Int32.ofInt q)] (PI layM Q)
theorem C_X11_toldKind.mono {s : ST} {p : Int} {q : Int} {Q Q' : ST → Int → Prop} (h : C_X11_toldKind s p q Q) (hq : ∀ s v, Q s v → Q' s v) : C_X11_toldKind s p q Q' := ⟨fun hA hrp hrq => q_met.mono (h.1 hA hrp hrq) (fun _ _ => PI.mono hq), trivial⟩
def K_X11_toldKind_93 (s : ST) (a1 : Int) (a3 : Int) (a4 : Int) (a5 : Int) (t1 : Int) (t2 : Int) (Q : ST → Int → Prop) : Prop := bx <| RA s → R32 a1 → R32 a3 → R32 a4 → R32 a5 → R32 t1 → R32 t2 → q_K mX11_toldKind (qs layM s) 0 0 93 [(0, .ref 139), (1, .int (Int32.ofInt a1)), (3, .int (Int32.ofInt a3)), (4, .int (Int32.ofInt a4)), (5, .int (Int32.ofInt a5))] [.int (Int32.ofInt t2), .int (Int32.ofInt t1), .ref 166] (q_fin mX11_toldKind (PI layM Q))
def K_X11_toldKind_27 (s : ST) (a1 : Int) (a3 : Int) (a4 : Int) (a5 : Int) (Q : ST → Int → Prop) : Prop := bx <| RA s → R32 a1 → R32 a3 → R32 a4 → R32 a5 → q_K mX11_toldKind (qs layM s) 0 0 27 [(0, .ref 139), (1, .int (Int32.ofInt a1)), (3, .int (Int32.ofInt a3)), (4, .int (Int32.ofInt a4)), (5, .int (Int32.ofInt a5))] [] (q_fin mX11_toldKind (PI layM Q))
set_option maxRecDepth 20000 in
theorem s_X11_toldKind_93 {s : ST} {a1 : Int} {a3 : Int} {a4 : Int} {a5 : Int} {t1 : Int} {t2 : Int} {Q : ST → Int → Prop} (h : RA s → R32 a1 → R32 a3 → R32 a4 → R32 a5 → R32 t1 → R32 t2 → (((0 : Int) ≤ t1 ∧ t1 < 12000) ∧ (R32 (a4 + 1) ∧ (R32 (a5 - 1) ∧ K_X11_toldKind_27 (ui s 166 t1 t2) a1 a3 (a4 + 1) (a5 - 1) Q)))) : K_X11_toldKind_93 s a1 a3 a4 a5 t1 t2 Q := by
  refine ⟨?_, trivial⟩
  intro hA hra1 hra3 hra4 hra5 hrt1 hrt2
  have h := h hA hra1 hra3 hra4 hra5 hrt1 hrt2
  have f1 := h.1
  have h := h.2
  refine z_iast (n := 12000) eX11_toldKind_93 rfl (ofz hrt1) f1  ?_
  have r2 := h.1
  have h := h.2
  refine z_inc (m := 1) eX11_toldKind_94 rfl (Nat.le_of_ble_eq_true rfl) rfl ?_
  refine q_goto (tgt := 167) eX11_toldKind_97 (by decide) ?_
  have r3 := h.1
  have h := h.2
  refine z_incN (m := 1) eX11_toldKind_167 rfl (Nat.le_of_ble_eq_true rfl) rfl ?_
  refine q_goto (tgt := 27) eX11_toldKind_170 (by decide) ?_
  exact q_subL rfl (h.1 (ra_ui hA hrt2) hra1 hra3 r2 r3)
set_option maxRecDepth 20000 in
theorem s_X11_toldKind_27 {s : ST} {a1 : Int} {a3 : Int} {a4 : Int} {a5 : Int} {Q : ST → Int → Prop} (h : RA s → R32 a1 → R32 a3 → R32 a4 → R32 a5 → (((0 : Int) ≤ a3 ∧ a3 < 240) ∧ ((a5 < s.1 154 a3 → (((0 : Int) ≤ (0 : Int) ∧ (0 : Int) < 12000) ∧ Q s (s.1 166 0))) ∧ (¬ a5 < s.1 154 a3 → (R32 (20 * a1) ∧ (R32 ((20 * a1) + a5) ∧ (((0 : Int) ≤ ((20 * a1) + a5) ∧ ((20 * a1) + a5) < 120) ∧ ((3 ≤ s.1 156 ((20 * a1) + a5) → ((¬ s.1 156 ((20 * a1) + a5) = 3 → (R32 (a4 - 1) ∧ (R32 ((a4 - 1) - 1) ∧ (((0 : Int) ≤ (a4 - 1) ∧ (a4 - 1) < 12000) ∧ (((0 : Int) ≤ ((a4 - 1) - 1) ∧ ((a4 - 1) - 1) < 12000) ∧ (C_X11_term s (s.1 156 ((20 * a1) + a5)) (s.1 166 (a4 - 1)) (s.1 166 ((a4 - 1) - 1)) (fun s10 v10 => (R32 (a5 - 1) ∧ K_X11_toldKind_27 (ui s10 166 ((a4 - 1) - 1) v10) a1 a3 (a4 - 1) (a5 - 1) Q)))))))) ∧ (s.1 156 ((20 * a1) + a5) = 3 → (R32 (a4 - 1) ∧ (((0 : Int) ≤ (a4 - 1) ∧ (a4 - 1) < 12000) ∧ (C_X11_term s 3 (s.1 166 (a4 - 1)) 0 (fun s14 v14 => (R32 (a5 - 1) ∧ K_X11_toldKind_27 (ui s14 166 (a4 - 1) v14) a1 a3 a4 (a5 - 1) Q)))))))) ∧ (¬ 3 ≤ s.1 156 ((20 * a1) + a5) → ((¬ s.1 156 ((20 * a1) + a5) = 0 → ((¬ s.1 156 ((20 * a1) + a5) = 1 → (C_X11_openTerm s (fun s16 v16 => K_X11_toldKind_93 s16 a1 a3 a4 a5 a4 v16 Q))) ∧ (s.1 156 ((20 * a1) + a5) = 1 → K_X11_toldKind_93 s a1 a3 a4 a5 a4 (s.1 139 51) Q))) ∧ (s.1 156 ((20 * a1) + a5) = 0 → K_X11_toldKind_93 s a1 a3 a4 a5 a4 (s.1 139 50) Q))))))))))) : K_X11_toldKind_27 s a1 a3 a4 a5 Q := by
  refine ⟨?_, trivial⟩
  intro hA hra1 hra3 hra4 hra5
  have h := h hA hra1 hra3 hra4 hra5
  refine q_iload eX11_toldKind_27 rfl ?_
  refine q_aload_n eX11_toldKind_29 rfl ?_
  refine q_getR (c := 11) (n := 0) (k := 23) (a := 154) eX11_toldKind_30 rfl (by decide) (by decide) fX11_57 rfl rfl ?_
  refine q_iload_n eX11_toldKind_33 rfl ?_
  have f1 := h.1
  have h := h.2
  refine z_iald (n := 240) eX11_toldKind_34 rfl (ofz hra3) f1 ?_
  refine q_topI (v := Int32.ofInt (s.1 154 a3)) rfl ?_
  refine q_cz_lt (tgt := 173) (a := a5) (b := s.1 154 a3) eX11_toldKind_35 (by decide) (ofz hra5) (ofz (hA _ _)) (fun c35 => ?_) (fun c35 => ?_)
  · have h := h.1 c35
    refine q_aload_n eX11_toldKind_173 rfl ?_
    refine q_getR (c := 11) (n := 0) (k := 38) (a := 166) eX11_toldKind_174 rfl (by decide) (by decide) fX11_94 rfl rfl ?_
    refine q_ic (v := Int32.ofInt 0) eX11_toldKind_177 rfl ?_
    have f2 := h.1
    have h := h.2
    refine z_iald (n := 12000) eX11_toldKind_178 rfl (ofz (r32l rfl)) f2 ?_
    refine q_topI (v := Int32.ofInt (s.1 166 0)) rfl ?_
    exact q_iret eX11_toldKind_179 rfl ⟨_, _, rfl, hA, (hA _ _), rfl, h⟩
  · have h := h.2 c35
    refine q_aload_n eX11_toldKind_38 rfl ?_
    refine q_getR (c := 11) (n := 0) (k := 25) (a := 156) eX11_toldKind_39 rfl (by decide) (by decide) fX11_63 rfl rfl ?_
    refine q_bi (v := Int32.ofInt 20) eX11_toldKind_42 rfl ?_
    refine q_iload_n eX11_toldKind_44 rfl ?_
    refine z_imul eX11_toldKind_45 ?_
    have r3 := h.1
    have h := h.2
    refine q_iload eX11_toldKind_46 rfl ?_
    refine z_iadd eX11_toldKind_48 ?_
    have r4 := h.1
    have h := h.2
    have f5 := h.1
    have h := h.2
    refine z_iald (n := 120) eX11_toldKind_49 rfl (ofz r4) f5 ?_
    refine q_topI (v := Int32.ofInt (s.1 156 ((20 * a1) + a5))) rfl ?_
    refine q_istore eX11_toldKind_50 (Nat.le_of_ble_eq_true rfl) ?_
    refine q_iload eX11_toldKind_52 rfl ?_
    refine q_ic (v := Int32.ofInt 3) eX11_toldKind_54 rfl ?_
    refine q_cz_ge (tgt := 100) (a := s.1 156 ((20 * a1) + a5)) (b := 3) eX11_toldKind_55 (by decide) (ofz (hA _ _)) (ofz (r32l rfl)) (fun c55 => ?_) (fun c55 => ?_)
    · have h := h.1 c55
      refine q_iload eX11_toldKind_100 rfl ?_
      refine q_ic (v := Int32.ofInt 3) eX11_toldKind_102 rfl ?_
      refine q_cz_ne (tgt := 133) (a := s.1 156 ((20 * a1) + a5)) (b := 3) eX11_toldKind_103 (by decide) (ofz (hA _ _)) (ofz (r32l rfl)) (fun c103 => ?_) (fun c103 => ?_)
      · have h := h.1 c103
        have r6 := h.1
        have h := h.2
        refine z_incN (m := 1) eX11_toldKind_133 rfl (Nat.le_of_ble_eq_true rfl) rfl ?_
        refine q_aload_n eX11_toldKind_136 rfl ?_
        refine q_getR (c := 11) (n := 0) (k := 38) (a := 166) eX11_toldKind_137 rfl (by decide) (by decide) fX11_94 rfl rfl ?_
        refine q_iload eX11_toldKind_140 rfl ?_
        refine q_ic (v := Int32.ofInt 1) eX11_toldKind_142 rfl ?_
        refine z_isub eX11_toldKind_143 ?_
        have r7 := h.1
        have h := h.2
        refine q_aload_n eX11_toldKind_144 rfl ?_
        refine q_iload eX11_toldKind_145 rfl ?_
        refine q_aload_n eX11_toldKind_147 rfl ?_
        refine q_getR (c := 11) (n := 0) (k := 38) (a := 166) eX11_toldKind_148 rfl (by decide) (by decide) fX11_94 rfl rfl ?_
        refine q_iload eX11_toldKind_151 rfl ?_
        have f8 := h.1
        have h := h.2
        refine z_iald (n := 12000) eX11_toldKind_153 rfl (ofz r6) f8 ?_
        refine q_topI (v := Int32.ofInt (s.1 166 (a4 - 1))) rfl ?_
        refine q_aload_n eX11_toldKind_154 rfl ?_
        refine q_getR (c := 11) (n := 0) (k := 38) (a := 166) eX11_toldKind_155 rfl (by decide) (by decide) fX11_94 rfl rfl ?_
        refine q_iload eX11_toldKind_158 rfl ?_
        refine q_ic (v := Int32.ofInt 1) eX11_toldKind_160 rfl ?_
        refine z_isub eX11_toldKind_161 ?_
        have f9 := h.1
        have h := h.2
        refine z_iald (n := 12000) eX11_toldKind_162 rfl (ofz r7) f9 ?_
        refine q_topI (v := Int32.ofInt (s.1 166 ((a4 - 1) - 1))) rfl ?_
        refine q_V3 (ci := 11) (n := 0) eX11_toldKind_163 DX11_term lX11_389 rfl (by decide) rfl rfl rfl rfl (h.1 hA (hA _ _) (hA _ _) (hA _ _)) ?_
        rintro _ _ ⟨s10, v10, rfl, hA10, r10, rfl, h⟩
        refine z_iast (n := 12000) eX11_toldKind_166 rfl (ofz r7) f9  ?_
        have r11 := h.1
        have h := h.2
        refine z_incN (m := 1) eX11_toldKind_167 rfl (Nat.le_of_ble_eq_true rfl) rfl ?_
        refine q_goto (tgt := 27) eX11_toldKind_170 (by decide) ?_
        exact q_subL rfl (h.1 (ra_ui hA10 r10) hra1 hra3 r6 r11)
      · have h := h.2 c103
        refine q_aload_n eX11_toldKind_106 rfl ?_
        refine q_getR (c := 11) (n := 0) (k := 38) (a := 166) eX11_toldKind_107 rfl (by decide) (by decide) fX11_94 rfl rfl ?_
        refine q_iload eX11_toldKind_110 rfl ?_
        refine q_ic (v := Int32.ofInt 1) eX11_toldKind_112 rfl ?_
        refine z_isub eX11_toldKind_113 ?_
        have r12 := h.1
        have h := h.2
        refine q_aload_n eX11_toldKind_114 rfl ?_
        refine q_ic (v := Int32.ofInt 3) eX11_toldKind_115 rfl ?_
        refine q_aload_n eX11_toldKind_116 rfl ?_
        refine q_getR (c := 11) (n := 0) (k := 38) (a := 166) eX11_toldKind_117 rfl (by decide) (by decide) fX11_94 rfl rfl ?_
        refine q_iload eX11_toldKind_120 rfl ?_
        refine q_ic (v := Int32.ofInt 1) eX11_toldKind_122 rfl ?_
        refine z_isub eX11_toldKind_123 ?_
        have f13 := h.1
        have h := h.2
        refine z_iald (n := 12000) eX11_toldKind_124 rfl (ofz r12) f13 ?_
        refine q_topI (v := Int32.ofInt (s.1 166 (a4 - 1))) rfl ?_
        refine q_ic (v := Int32.ofInt 0) eX11_toldKind_125 rfl ?_
        refine q_V3 (ci := 11) (n := 0) eX11_toldKind_126 DX11_term lX11_389 rfl (by decide) rfl rfl rfl rfl (h.1 hA (r32l rfl) (hA _ _) (r32l rfl)) ?_
        rintro _ _ ⟨s14, v14, rfl, hA14, r14, rfl, h⟩
        refine z_iast (n := 12000) eX11_toldKind_129 rfl (ofz r12) f13  ?_
        refine q_goto (tgt := 167) eX11_toldKind_130 (by decide) ?_
        have r15 := h.1
        have h := h.2
        refine z_incN (m := 1) eX11_toldKind_167 rfl (Nat.le_of_ble_eq_true rfl) rfl ?_
        refine q_goto (tgt := 27) eX11_toldKind_170 (by decide) ?_
        exact q_subL rfl (h.1 (ra_ui hA14 r14) hra1 hra3 hra4 r15)
    · have h := h.2 c55
      refine q_aload_n eX11_toldKind_58 rfl ?_
      refine q_getR (c := 11) (n := 0) (k := 38) (a := 166) eX11_toldKind_59 rfl (by decide) (by decide) fX11_94 rfl rfl ?_
      refine q_iload eX11_toldKind_62 rfl ?_
      refine q_iload eX11_toldKind_64 rfl ?_
      refine q_iz_ne (tgt := 76) (a := s.1 156 ((20 * a1) + a5)) eX11_toldKind_66 (by decide) (ofz (hA _ _)) (fun c66 => ?_) (fun c66 => ?_)
      · have h := h.1 c66
        refine q_iload eX11_toldKind_76 rfl ?_
        refine q_ic (v := Int32.ofInt 1) eX11_toldKind_78 rfl ?_
        refine q_cz_ne (tgt := 89) (a := s.1 156 ((20 * a1) + a5)) (b := 1) eX11_toldKind_79 (by decide) (ofz (hA _ _)) (ofz (r32l rfl)) (fun c79 => ?_) (fun c79 => ?_)
        · have h := h.1 c79
          refine q_aload_n eX11_toldKind_89 rfl ?_
          refine q_V0 (ci := 11) (n := 0) eX11_toldKind_90 DX11_openTerm lX11_399 rfl (by decide) rfl rfl rfl rfl (h.1 hA) ?_
          rintro _ _ ⟨s16, v16, rfl, hA16, r16, rfl, h⟩
          exact q_subL rfl (h.1 hA16 hra1 hra3 hra4 hra5 hra4 r16)
        · have h := h.2 c79
          refine q_aload_n eX11_toldKind_82 rfl ?_
          refine q_getf (c := 11) (n := 0) (k := 51) (v := .int (Int32.ofInt (s.1 139 51))) eX11_toldKind_83 rfl (by decide) (by decide) fX11_405 rfl ?_
          refine q_goto (tgt := 93) eX11_toldKind_86 (by decide) ?_
          exact q_subL rfl (h.1 hA hra1 hra3 hra4 hra5 hra4 (hA _ _))
      · have h := h.2 c66
        refine q_aload_n eX11_toldKind_69 rfl ?_
        refine q_getf (c := 11) (n := 0) (k := 50) (v := .int (Int32.ofInt (s.1 139 50))) eX11_toldKind_70 rfl (by decide) (by decide) fX11_402 rfl ?_
        refine q_goto (tgt := 93) eX11_toldKind_73 (by decide) ?_
        exact q_subL rfl (h.1 hA hra1 hra3 hra4 hra5 hra4 (hA _ _))
set_option maxRecDepth 20000 in
theorem s_X11_toldKind {s : ST} {p : Int} {q : Int} {Q : ST → Int → Prop} (h : RA s → R32 p → R32 q → (R32 (40 * p) ∧ (R32 ((40 * p) + q) ∧ (((0 : Int) ≤ ((40 * p) + q) ∧ ((40 * p) + q) < 240) ∧ (R32 (s.1 154 ((40 * p) + q) + s.1 155 ((40 * p) + q)) ∧ (R32 ((s.1 154 ((40 * p) + q) + s.1 155 ((40 * p) + q)) - 1) ∧ K_X11_toldKind_27 s p ((40 * p) + q) 0 ((s.1 154 ((40 * p) + q) + s.1 155 ((40 * p) + q)) - 1) Q)))))) : C_X11_toldKind s p q Q := by
  refine ⟨?_, trivial⟩
  intro hA hrp hrq
  have h := h hA hrp hrq
  refine q_enter (by decide) (Nat.le_of_ble_eq_true rfl) ?_
  refine q_bi (v := Int32.ofInt 40) eX11_toldKind_0 rfl ?_
  refine q_iload_n eX11_toldKind_2 rfl ?_
  refine z_imul eX11_toldKind_3 ?_
  have r1 := h.1
  have h := h.2
  refine q_iload_n eX11_toldKind_4 rfl ?_
  refine z_iadd eX11_toldKind_5 ?_
  have r2 := h.1
  have h := h.2
  refine q_istore_n eX11_toldKind_6 (Nat.le_of_ble_eq_true rfl) ?_
  refine q_ic (v := Int32.ofInt 0) eX11_toldKind_7 rfl ?_
  refine q_istore eX11_toldKind_8 (Nat.le_of_ble_eq_true rfl) ?_
  refine q_aload_n eX11_toldKind_10 rfl ?_
  refine q_getR (c := 11) (n := 0) (k := 23) (a := 154) eX11_toldKind_11 rfl (by decide) (by decide) fX11_57 rfl rfl ?_
  refine q_iload_n eX11_toldKind_14 rfl ?_
  have f3 := h.1
  have h := h.2
  refine z_iald (n := 240) eX11_toldKind_15 rfl (ofz r2) f3 ?_
  refine q_topI (v := Int32.ofInt (s.1 154 ((40 * p) + q))) rfl ?_
  refine q_aload_n eX11_toldKind_16 rfl ?_
  refine q_getR (c := 11) (n := 0) (k := 24) (a := 155) eX11_toldKind_17 rfl (by decide) (by decide) fX11_60 rfl rfl ?_
  refine q_iload_n eX11_toldKind_20 rfl ?_
  refine z_iald (n := 240) eX11_toldKind_21 rfl (ofz r2) f3 ?_
  refine q_topI (v := Int32.ofInt (s.1 155 ((40 * p) + q))) rfl ?_
  refine z_iadd eX11_toldKind_22 ?_
  have r4 := h.1
  have h := h.2
  refine q_ic (v := Int32.ofInt 1) eX11_toldKind_23 rfl ?_
  refine z_isub eX11_toldKind_24 ?_
  have r5 := h.1
  have h := h.2
  refine q_istore eX11_toldKind_25 (Nat.le_of_ble_eq_true rfl) ?_
  exact q_subL rfl (h.1 hA hrp r2 (r32l rfl) r5)
theorem eX11_layRowed_0 : decode cX11_layRowed 0 = .ok (.aload_n 0, 1) := by decide +kernel
theorem eX11_layRowed_1 : decode cX11_layRowed 1 = .ok (.getfield 33, 3) := by decide +kernel
theorem eX11_layRowed_4 : decode cX11_layRowed 4 = .ok (.bipush 40, 2) := by decide +kernel
theorem eX11_layRowed_6 : decode cX11_layRowed 6 = .ok (.iload_n 1, 1) := by decide +kernel
theorem eX11_layRowed_7 : decode cX11_layRowed 7 = .ok (.imul, 1) := by decide +kernel
theorem eX11_layRowed_8 : decode cX11_layRowed 8 = .ok (.iload_n 3, 1) := by decide +kernel
theorem eX11_layRowed_9 : decode cX11_layRowed 9 = .ok (.iadd, 1) := by decide +kernel
theorem eX11_layRowed_10 : decode cX11_layRowed 10 = .ok (.iaload, 1) := by decide +kernel
theorem eX11_layRowed_11 : decode cX11_layRowed 11 = .ok (.tableswitch 166 11 15 #[33, 60, 78, 107, 107], 33) := by decide +kernel
theorem eX11_layRowed_44 : decode cX11_layRowed 44 = .ok (.aload_n 0, 1) := by decide +kernel
theorem eX11_layRowed_45 : decode cX11_layRowed 45 = .ok (.iload_n 3, 1) := by decide +kernel
theorem eX11_layRowed_46 : decode cX11_layRowed 46 = .ok (.iload 6, 2) := by decide +kernel
theorem eX11_layRowed_48 : decode cX11_layRowed 48 = .ok (.aload_n 0, 1) := by decide +kernel
theorem eX11_layRowed_49 : decode cX11_layRowed 49 = .ok (.iconst 3, 1) := by decide +kernel
theorem eX11_layRowed_50 : decode cX11_layRowed 50 = .ok (.iload 5, 2) := by decide +kernel
theorem eX11_layRowed_52 : decode cX11_layRowed 52 = .ok (.iconst 0, 1) := by decide +kernel
theorem eX11_layRowed_53 : decode cX11_layRowed 53 = .ok (.invokevirtual 389, 3) := by decide +kernel
theorem eX11_layRowed_56 : decode cX11_layRowed 56 = .ok (.invokevirtual 422, 3) := by decide +kernel
theorem eX11_layRowed_59 : decode cX11_layRowed 59 = .ok (.aload_n 0, 1) := by decide +kernel
theorem eX11_layRowed_60 : decode cX11_layRowed 60 = .ok (.iload_n 3, 1) := by decide +kernel
theorem eX11_layRowed_61 : decode cX11_layRowed 61 = .ok (.iload 4, 2) := by decide +kernel
theorem eX11_layRowed_63 : decode cX11_layRowed 63 = .ok (.iload 6, 2) := by decide +kernel
theorem eX11_layRowed_65 : decode cX11_layRowed 65 = .ok (.invokevirtual 422, 3) := by decide +kernel
theorem eX11_layRowed_68 : decode cX11_layRowed 68 = .ok (.goto 131, 3) := by decide +kernel
theorem eX11_layRowed_71 : decode cX11_layRowed 71 = .ok (.aload_n 0, 1) := by decide +kernel
theorem eX11_layRowed_72 : decode cX11_layRowed 72 = .ok (.iload_n 3, 1) := by decide +kernel
theorem eX11_layRowed_73 : decode cX11_layRowed 73 = .ok (.iload 5, 2) := by decide +kernel
theorem eX11_layRowed_75 : decode cX11_layRowed 75 = .ok (.aload_n 0, 1) := by decide +kernel
theorem eX11_layRowed_76 : decode cX11_layRowed 76 = .ok (.iconst 3, 1) := by decide +kernel
theorem eX11_layRowed_77 : decode cX11_layRowed 77 = .ok (.iload 4, 2) := by decide +kernel
theorem eX11_layRowed_79 : decode cX11_layRowed 79 = .ok (.iconst 0, 1) := by decide +kernel
theorem eX11_layRowed_80 : decode cX11_layRowed 80 = .ok (.invokevirtual 389, 3) := by decide +kernel
theorem eX11_layRowed_83 : decode cX11_layRowed 83 = .ok (.invokevirtual 422, 3) := by decide +kernel
theorem eX11_layRowed_86 : decode cX11_layRowed 86 = .ok (.goto 113, 3) := by decide +kernel
theorem eX11_layRowed_89 : decode cX11_layRowed 89 = .ok (.aload_n 0, 1) := by decide +kernel
theorem eX11_layRowed_90 : decode cX11_layRowed 90 = .ok (.iload_n 3, 1) := by decide +kernel
theorem eX11_layRowed_91 : decode cX11_layRowed 91 = .ok (.iload 5, 2) := by decide +kernel
theorem eX11_layRowed_93 : decode cX11_layRowed 93 = .ok (.aload_n 0, 1) := by decide +kernel
theorem eX11_layRowed_94 : decode cX11_layRowed 94 = .ok (.iconst 3, 1) := by decide +kernel
theorem eX11_layRowed_95 : decode cX11_layRowed 95 = .ok (.aload_n 0, 1) := by decide +kernel
theorem eX11_layRowed_96 : decode cX11_layRowed 96 = .ok (.invokevirtual 399, 3) := by decide +kernel
theorem eX11_layRowed_99 : decode cX11_layRowed 99 = .ok (.iconst 0, 1) := by decide +kernel
theorem eX11_layRowed_100 : decode cX11_layRowed 100 = .ok (.invokevirtual 389, 3) := by decide +kernel
theorem eX11_layRowed_103 : decode cX11_layRowed 103 = .ok (.invokevirtual 422, 3) := by decide +kernel
theorem eX11_layRowed_106 : decode cX11_layRowed 106 = .ok (.aload_n 0, 1) := by decide +kernel
theorem eX11_layRowed_107 : decode cX11_layRowed 107 = .ok (.iload_n 3, 1) := by decide +kernel
theorem eX11_layRowed_108 : decode cX11_layRowed 108 = .ok (.iload 4, 2) := by decide +kernel
theorem eX11_layRowed_110 : decode cX11_layRowed 110 = .ok (.iload 5, 2) := by decide +kernel
theorem eX11_layRowed_112 : decode cX11_layRowed 112 = .ok (.invokevirtual 422, 3) := by decide +kernel
theorem eX11_layRowed_115 : decode cX11_layRowed 115 = .ok (.goto 84, 3) := by decide +kernel
theorem eX11_layRowed_118 : decode cX11_layRowed 118 = .ok (.aload_n 0, 1) := by decide +kernel
theorem eX11_layRowed_119 : decode cX11_layRowed 119 = .ok (.iload_n 3, 1) := by decide +kernel
theorem eX11_layRowed_120 : decode cX11_layRowed 120 = .ok (.iload 5, 2) := by decide +kernel
theorem eX11_layRowed_122 : decode cX11_layRowed 122 = .ok (.aload_n 0, 1) := by decide +kernel
theorem eX11_layRowed_123 : decode cX11_layRowed 123 = .ok (.getfield 402, 3) := by decide +kernel
theorem eX11_layRowed_126 : decode cX11_layRowed 126 = .ok (.invokevirtual 422, 3) := by decide +kernel
theorem eX11_layRowed_129 : decode cX11_layRowed 129 = .ok (.aload_n 0, 1) := by decide +kernel
theorem eX11_layRowed_130 : decode cX11_layRowed 130 = .ok (.iload_n 3, 1) := by decide +kernel
theorem eX11_layRowed_131 : decode cX11_layRowed 131 = .ok (.iload 6, 2) := by decide +kernel
theorem eX11_layRowed_133 : decode cX11_layRowed 133 = .ok (.aload_n 0, 1) := by decide +kernel
theorem eX11_layRowed_134 : decode cX11_layRowed 134 = .ok (.getfield 402, 3) := by decide +kernel
theorem eX11_layRowed_137 : decode cX11_layRowed 137 = .ok (.invokevirtual 422, 3) := by decide +kernel
theorem eX11_layRowed_140 : decode cX11_layRowed 140 = .ok (.aload_n 0, 1) := by decide +kernel
theorem eX11_layRowed_141 : decode cX11_layRowed 141 = .ok (.iload_n 3, 1) := by decide +kernel
theorem eX11_layRowed_142 : decode cX11_layRowed 142 = .ok (.iload 4, 2) := by decide +kernel
theorem eX11_layRowed_144 : decode cX11_layRowed 144 = .ok (.aload_n 0, 1) := by decide +kernel
theorem eX11_layRowed_145 : decode cX11_layRowed 145 = .ok (.getfield 33, 3) := by decide +kernel
theorem eX11_layRowed_148 : decode cX11_layRowed 148 = .ok (.bipush 40, 2) := by decide +kernel
theorem eX11_layRowed_150 : decode cX11_layRowed 150 = .ok (.iload_n 1, 1) := by decide +kernel
theorem eX11_layRowed_151 : decode cX11_layRowed 151 = .ok (.imul, 1) := by decide +kernel
theorem eX11_layRowed_152 : decode cX11_layRowed 152 = .ok (.iload_n 3, 1) := by decide +kernel
theorem eX11_layRowed_153 : decode cX11_layRowed 153 = .ok (.iadd, 1) := by decide +kernel
theorem eX11_layRowed_154 : decode cX11_layRowed 154 = .ok (.iaload, 1) := by decide +kernel
theorem eX11_layRowed_155 : decode cX11_layRowed 155 = .ok (.bipush 14, 2) := by decide +kernel
theorem eX11_layRowed_157 : decode cX11_layRowed 157 = .ok (.if_icmp .ne 10, 3) := by decide +kernel
theorem eX11_layRowed_160 : decode cX11_layRowed 160 = .ok (.aload_n 0, 1) := by decide +kernel
theorem eX11_layRowed_161 : decode cX11_layRowed 161 = .ok (.getfield 402, 3) := by decide +kernel
theorem eX11_layRowed_164 : decode cX11_layRowed 164 = .ok (.goto 7, 3) := by decide +kernel
theorem eX11_layRowed_167 : decode cX11_layRowed 167 = .ok (.aload_n 0, 1) := by decide +kernel
theorem eX11_layRowed_168 : decode cX11_layRowed 168 = .ok (.getfield 405, 3) := by decide +kernel
theorem eX11_layRowed_171 : decode cX11_layRowed 171 = .ok (.invokevirtual 422, 3) := by decide +kernel
theorem eX11_layRowed_174 : decode cX11_layRowed 174 = .ok (.goto 25, 3) := by decide +kernel
theorem eX11_layRowed_177 : decode cX11_layRowed 177 = .ok (.aload_n 0, 1) := by decide +kernel
theorem eX11_layRowed_178 : decode cX11_layRowed 178 = .ok (.iload_n 3, 1) := by decide +kernel
theorem eX11_layRowed_179 : decode cX11_layRowed 179 = .ok (.iload 4, 2) := by decide +kernel
theorem eX11_layRowed_181 : decode cX11_layRowed 181 = .ok (.aload_n 0, 1) := by decide +kernel
theorem eX11_layRowed_182 : decode cX11_layRowed 182 = .ok (.iload_n 1, 1) := by decide +kernel
theorem eX11_layRowed_183 : decode cX11_layRowed 183 = .ok (.iload_n 3, 1) := by decide +kernel
theorem eX11_layRowed_184 : decode cX11_layRowed 184 = .ok (.invokevirtual 432, 3) := by decide +kernel
theorem eX11_layRowed_187 : decode cX11_layRowed 187 = .ok (.invokevirtual 422, 3) := by decide +kernel
theorem eX11_layRowed_190 : decode cX11_layRowed 190 = .ok (.aload_n 0, 1) := by decide +kernel
theorem eX11_layRowed_191 : decode cX11_layRowed 191 = .ok (.iload_n 3, 1) := by decide +kernel
theorem eX11_layRowed_192 : decode cX11_layRowed 192 = .ok (.iload 5, 2) := by decide +kernel
theorem eX11_layRowed_194 : decode cX11_layRowed 194 = .ok (.iload 4, 2) := by decide +kernel
theorem eX11_layRowed_196 : decode cX11_layRowed 196 = .ok (.invokevirtual 422, 3) := by decide +kernel
theorem eX11_layRowed_199 : decode cX11_layRowed 199 = .ok (.return_, 1) := by decide +kernel
def C_X11_layRowed (s : ST) (p : Int) (q : Int) (u : Int) (w : Int) (x : Int) (y : Int) (Q : ST → Prop) : Prop := bx <| RA s → R32 p → R32 q → R32 u → R32 w → R32 x → R32 y → q_met mX11_layRowed (qs layM s) [.ref 139, .int (Int32.ofInt p), .int (Int32.ofInt q), .int (Int32.ofInt u), .int (Int32.ofInt w), .int (Int32.ofInt x), .int (Int32.ofInt y)] (PV layM Q)
theorem C_X11_layRowed.mono {s : ST} {p : Int} {q : Int} {u : Int} {w : Int} {x : Int} {y : Int} {Q Q' : ST → Prop} (h : C_X11_layRowed s p q u w x y Q) (hq : ∀ s, Q s → Q' s) : C_X11_layRowed s p q u w x y Q' := ⟨fun hA hrp hrq hru hrw hrx hry => q_met.mono (h.1 hA hrp hrq hru hrw hrx hry) (fun _ _ => PV.mono hq), trivial⟩
def K_X11_layRowed_171 (s : ST) (t1 : Int) (t2 : Int) (t3 : Int) (Q : ST → Prop) : Prop := bx <| RA s → R32 t1 → R32 t2 → R32 t3 → q_K mX11_layRowed (qs layM s) 0 0 171 [] [.int (Int32.ofInt t3), .int (Int32.ofInt t2), .int (Int32.ofInt t1), .ref 139] (q_fin mX11_layRowed (PV layM Q))
def K_X11_layRowed_118 (s : ST) (a1 : Int) (a3 : Int) (a4 : Int) (a5 : Int) (a6 : Int) (Q : ST → Prop) : Prop := bx <| RA s → R32 a1 → R32 a3 → R32 a4 → R32 a5 → R32 a6 → q_K mX11_layRowed (qs layM s) 0 0 118 [(0, .ref 139), (1, .int (Int32.ofInt a1)), (3, .int (Int32.ofInt a3)), (4, .int (Int32.ofInt a4)), (5, .int (Int32.ofInt a5)), (6, .int (Int32.ofInt a6))] [] (q_fin mX11_layRowed (PV layM Q))
set_option maxRecDepth 20000 in
theorem s_X11_layRowed_171 {s : ST} {t1 : Int} {t2 : Int} {t3 : Int} {Q : ST → Prop} (h : RA s → R32 t1 → R32 t2 → R32 t3 → (C_X11_ask s t1 t2 t3 (fun s1 => Q s1))) : K_X11_layRowed_171 s t1 t2 t3 Q := by
  refine ⟨?_, trivial⟩
  intro hA hrt1 hrt2 hrt3
  have h := h hA hrt1 hrt2 hrt3
  refine q_V3 (ci := 11) (n := 0) eX11_layRowed_171 DX11_ask lX11_422 rfl (by decide) rfl rfl rfl rfl (h.1 hA hrt1 hrt2 hrt3) ?_
  rintro _ _ ⟨s1, rfl, hA1, rfl, h⟩
  refine q_goto (tgt := 199) eX11_layRowed_174 (by decide) ?_
  exact q_ret eX11_layRowed_199 rfl ⟨_, rfl, hA1, rfl, h⟩
set_option maxRecDepth 20000 in
theorem s_X11_layRowed_118 {s : ST} {a1 : Int} {a3 : Int} {a4 : Int} {a5 : Int} {a6 : Int} {Q : ST → Prop} (h : RA s → R32 a1 → R32 a3 → R32 a4 → R32 a5 → R32 a6 → (C_X11_ask s a3 a5 (s.1 139 50) (fun s1 => (C_X11_ask s1 a3 a6 (s1.1 139 50) (fun s2 => (R32 (40 * a1) ∧ (R32 ((40 * a1) + a3) ∧ (((0 : Int) ≤ ((40 * a1) + a3) ∧ ((40 * a1) + a3) < 240) ∧ ((¬ s2.1 146 ((40 * a1) + a3) = 14 → K_X11_layRowed_171 s2 a3 a4 (s2.1 139 51) Q) ∧ (s2.1 146 ((40 * a1) + a3) = 14 → K_X11_layRowed_171 s2 a3 a4 (s2.1 139 50) Q)))))))))) : K_X11_layRowed_118 s a1 a3 a4 a5 a6 Q := by
  refine ⟨?_, trivial⟩
  intro hA hra1 hra3 hra4 hra5 hra6
  have h := h hA hra1 hra3 hra4 hra5 hra6
  refine q_aload_n eX11_layRowed_118 rfl ?_
  refine q_iload_n eX11_layRowed_119 rfl ?_
  refine q_iload eX11_layRowed_120 rfl ?_
  refine q_aload_n eX11_layRowed_122 rfl ?_
  refine q_getf (c := 11) (n := 0) (k := 50) (v := .int (Int32.ofInt (s.1 139 50))) eX11_layRowed_123 rfl (by decide) (by decide) fX11_402 rfl ?_
  refine q_V3 (ci := 11) (n := 0) eX11_layRowed_126 DX11_ask lX11_422 rfl (by decide) rfl rfl rfl rfl (h.1 hA hra3 hra5 (hA _ _)) ?_
  rintro _ _ ⟨s1, rfl, hA1, rfl, h⟩
  refine q_aload_n eX11_layRowed_129 rfl ?_
  refine q_iload_n eX11_layRowed_130 rfl ?_
  refine q_iload eX11_layRowed_131 rfl ?_
  refine q_aload_n eX11_layRowed_133 rfl ?_
  refine q_getf (c := 11) (n := 0) (k := 50) (v := .int (Int32.ofInt (s1.1 139 50))) eX11_layRowed_134 rfl (by decide) (by decide) fX11_402 rfl ?_
  refine q_V3 (ci := 11) (n := 0) eX11_layRowed_137 DX11_ask lX11_422 rfl (by decide) rfl rfl rfl rfl (h.1 hA1 hra3 hra6 (hA1 _ _)) ?_
  rintro _ _ ⟨s2, rfl, hA2, rfl, h⟩
  refine q_aload_n eX11_layRowed_140 rfl ?_
  refine q_iload_n eX11_layRowed_141 rfl ?_
  refine q_iload eX11_layRowed_142 rfl ?_
  refine q_aload_n eX11_layRowed_144 rfl ?_
  refine q_getR (c := 11) (n := 0) (k := 15) (a := 146) eX11_layRowed_145 rfl (by decide) (by decide) fX11_33 rfl rfl ?_
  refine q_bi (v := Int32.ofInt 40) eX11_layRowed_148 rfl ?_
  refine q_iload_n eX11_layRowed_150 rfl ?_
  refine z_imul eX11_layRowed_151 ?_
  have r3 := h.1
  have h := h.2
  refine q_iload_n eX11_layRowed_152 rfl ?_
  refine z_iadd eX11_layRowed_153 ?_
  have r4 := h.1
  have h := h.2
  have f5 := h.1
  have h := h.2
  refine z_iald (n := 240) eX11_layRowed_154 rfl (ofz r4) f5 ?_
  refine q_topI (v := Int32.ofInt (s2.1 146 ((40 * a1) + a3))) rfl ?_
  refine q_bi (v := Int32.ofInt 14) eX11_layRowed_155 rfl ?_
  refine q_cz_ne (tgt := 167) (a := s2.1 146 ((40 * a1) + a3)) (b := 14) eX11_layRowed_157 (by decide) (ofz (hA2 _ _)) (ofz (r32l rfl)) (fun c157 => ?_) (fun c157 => ?_)
  · have h := h.1 c157
    refine q_aload_n eX11_layRowed_167 rfl ?_
    refine q_getf (c := 11) (n := 0) (k := 51) (v := .int (Int32.ofInt (s2.1 139 51))) eX11_layRowed_168 rfl (by decide) (by decide) fX11_405 rfl ?_
    exact q_subL rfl (h.1 hA2 hra3 hra4 (hA2 _ _))
  · have h := h.2 c157
    refine q_aload_n eX11_layRowed_160 rfl ?_
    refine q_getf (c := 11) (n := 0) (k := 50) (v := .int (Int32.ofInt (s2.1 139 50))) eX11_layRowed_161 rfl (by decide) (by decide) fX11_402 rfl ?_
    refine q_goto (tgt := 171) eX11_layRowed_164 (by decide) ?_
    exact q_subL rfl (h.1 hA2 hra3 hra4 (hA2 _ _))
set_option maxRecDepth 20000 in
theorem s_X11_layRowed {s : ST} {p : Int} {q : Int} {u : Int} {w : Int} {x : Int} {y : Int} {Q : ST → Prop} (h : RA s → R32 p → R32 q → R32 u → R32 w → R32 x → R32 y → (R32 (40 * p) ∧ (R32 ((40 * p) + u) ∧ (((0 : Int) ≤ ((40 * p) + u) ∧ ((40 * p) + u) < 240) ∧ ((s.1 146 ((40 * p) + u) = 11 → (C_X11_term s 3 x 0 (fun s4 v4 => (C_X11_ask s4 u y v4 (fun s5 => (C_X11_ask s5 u w y (fun s6 => Q s6))))))) ∧ (s.1 146 ((40 * p) + u) = 12 → (C_X11_term s 3 w 0 (fun s7 v7 => (C_X11_ask s7 u x v7 (fun s8 => Q s8))))) ∧ (s.1 146 ((40 * p) + u) = 13 → (C_X11_openTerm s (fun s9 v9 => (C_X11_term s9 3 v9 0 (fun s10 v10 => (C_X11_ask s10 u x v10 (fun s11 => (C_X11_ask s11 u w x (fun s12 => Q s12))))))))) ∧ (s.1 146 ((40 * p) + u) = 14 → K_X11_layRowed_118 s p u w x y Q) ∧ (s.1 146 ((40 * p) + u) = 15 → K_X11_layRowed_118 s p u w x y Q) ∧ ((s.1 146 ((40 * p) + u) < 11 ∨ 15 < s.1 146 ((40 * p) + u)) → (C_X11_toldKind s p u (fun s13 v13 => (C_X11_ask s13 u w v13 (fun s14 => (C_X11_ask s14 u x w (fun s15 => Q s15)))))))))))) : C_X11_layRowed s p q u w x y Q := by
  refine ⟨?_, trivial⟩
  intro hA hrp hrq hru hrw hrx hry
  have h := h hA hrp hrq hru hrw hrx hry
  refine q_enter (by decide) (Nat.le_of_ble_eq_true rfl) ?_
  refine q_aload_n eX11_layRowed_0 rfl ?_
  refine q_getR (c := 11) (n := 0) (k := 15) (a := 146) eX11_layRowed_1 rfl (by decide) (by decide) fX11_33 rfl rfl ?_
  refine q_bi (v := Int32.ofInt 40) eX11_layRowed_4 rfl ?_
  refine q_iload_n eX11_layRowed_6 rfl ?_
  refine z_imul eX11_layRowed_7 ?_
  have r1 := h.1
  have h := h.2
  refine q_iload_n eX11_layRowed_8 rfl ?_
  refine z_iadd eX11_layRowed_9 ?_
  have r2 := h.1
  have h := h.2
  have f3 := h.1
  have h := h.2
  refine z_iald (n := 240) eX11_layRowed_10 rfl (ofz r2) f3 ?_
  refine q_topI (v := Int32.ofInt (s.1 146 ((40 * p) + u))) rfl ?_
  refine q_tab5 44 71 89 118 118 177 eX11_layRowed_11 rfl rfl (by decide) (z := s.1 146 ((40 * p) + u)) (ofz (hA _ _)) (fun c11 => ?_) (fun c11 => ?_) (fun c11 => ?_) (fun c11 => ?_) (fun c11 => ?_) (fun c11 => ?_)
  · have h := h.1 c11
    refine q_aload_n eX11_layRowed_44 rfl ?_
    refine q_iload_n eX11_layRowed_45 rfl ?_
    refine q_iload eX11_layRowed_46 rfl ?_
    refine q_aload_n eX11_layRowed_48 rfl ?_
    refine q_ic (v := Int32.ofInt 3) eX11_layRowed_49 rfl ?_
    refine q_iload eX11_layRowed_50 rfl ?_
    refine q_ic (v := Int32.ofInt 0) eX11_layRowed_52 rfl ?_
    refine q_V3 (ci := 11) (n := 0) eX11_layRowed_53 DX11_term lX11_389 rfl (by decide) rfl rfl rfl rfl (h.1 hA (r32l rfl) hrx (r32l rfl)) ?_
    rintro _ _ ⟨s4, v4, rfl, hA4, r4, rfl, h⟩
    refine q_V3 (ci := 11) (n := 0) eX11_layRowed_56 DX11_ask lX11_422 rfl (by decide) rfl rfl rfl rfl (h.1 hA4 hru hry r4) ?_
    rintro _ _ ⟨s5, rfl, hA5, rfl, h⟩
    refine q_aload_n eX11_layRowed_59 rfl ?_
    refine q_iload_n eX11_layRowed_60 rfl ?_
    refine q_iload eX11_layRowed_61 rfl ?_
    refine q_iload eX11_layRowed_63 rfl ?_
    refine q_V3 (ci := 11) (n := 0) eX11_layRowed_65 DX11_ask lX11_422 rfl (by decide) rfl rfl rfl rfl (h.1 hA5 hru hrw hry) ?_
    rintro _ _ ⟨s6, rfl, hA6, rfl, h⟩
    refine q_goto (tgt := 199) eX11_layRowed_68 (by decide) ?_
    exact q_ret eX11_layRowed_199 rfl ⟨_, rfl, hA6, rfl, h⟩
  · have h := h.2.1 c11
    refine q_aload_n eX11_layRowed_71 rfl ?_
    refine q_iload_n eX11_layRowed_72 rfl ?_
    refine q_iload eX11_layRowed_73 rfl ?_
    refine q_aload_n eX11_layRowed_75 rfl ?_
    refine q_ic (v := Int32.ofInt 3) eX11_layRowed_76 rfl ?_
    refine q_iload eX11_layRowed_77 rfl ?_
    refine q_ic (v := Int32.ofInt 0) eX11_layRowed_79 rfl ?_
    refine q_V3 (ci := 11) (n := 0) eX11_layRowed_80 DX11_term lX11_389 rfl (by decide) rfl rfl rfl rfl (h.1 hA (r32l rfl) hrw (r32l rfl)) ?_
    rintro _ _ ⟨s7, v7, rfl, hA7, r7, rfl, h⟩
    refine q_V3 (ci := 11) (n := 0) eX11_layRowed_83 DX11_ask lX11_422 rfl (by decide) rfl rfl rfl rfl (h.1 hA7 hru hrx r7) ?_
    rintro _ _ ⟨s8, rfl, hA8, rfl, h⟩
    refine q_goto (tgt := 199) eX11_layRowed_86 (by decide) ?_
    exact q_ret eX11_layRowed_199 rfl ⟨_, rfl, hA8, rfl, h⟩
  · have h := h.2.2.1 c11
    refine q_aload_n eX11_layRowed_89 rfl ?_
    refine q_iload_n eX11_layRowed_90 rfl ?_
    refine q_iload eX11_layRowed_91 rfl ?_
    refine q_aload_n eX11_layRowed_93 rfl ?_
    refine q_ic (v := Int32.ofInt 3) eX11_layRowed_94 rfl ?_
    refine q_aload_n eX11_layRowed_95 rfl ?_
    refine q_V0 (ci := 11) (n := 0) eX11_layRowed_96 DX11_openTerm lX11_399 rfl (by decide) rfl rfl rfl rfl (h.1 hA) ?_
    rintro _ _ ⟨s9, v9, rfl, hA9, r9, rfl, h⟩
    refine q_ic (v := Int32.ofInt 0) eX11_layRowed_99 rfl ?_
    refine q_V3 (ci := 11) (n := 0) eX11_layRowed_100 DX11_term lX11_389 rfl (by decide) rfl rfl rfl rfl (h.1 hA9 (r32l rfl) r9 (r32l rfl)) ?_
    rintro _ _ ⟨s10, v10, rfl, hA10, r10, rfl, h⟩
    refine q_V3 (ci := 11) (n := 0) eX11_layRowed_103 DX11_ask lX11_422 rfl (by decide) rfl rfl rfl rfl (h.1 hA10 hru hrx r10) ?_
    rintro _ _ ⟨s11, rfl, hA11, rfl, h⟩
    refine q_aload_n eX11_layRowed_106 rfl ?_
    refine q_iload_n eX11_layRowed_107 rfl ?_
    refine q_iload eX11_layRowed_108 rfl ?_
    refine q_iload eX11_layRowed_110 rfl ?_
    refine q_V3 (ci := 11) (n := 0) eX11_layRowed_112 DX11_ask lX11_422 rfl (by decide) rfl rfl rfl rfl (h.1 hA11 hru hrw hrx) ?_
    rintro _ _ ⟨s12, rfl, hA12, rfl, h⟩
    refine q_goto (tgt := 199) eX11_layRowed_115 (by decide) ?_
    exact q_ret eX11_layRowed_199 rfl ⟨_, rfl, hA12, rfl, h⟩
  · have h := h.2.2.2.1 c11
    exact q_subL rfl (h.1 hA hrp hru hrw hrx hry)
  · have h := h.2.2.2.2.1 c11
    exact q_subL rfl (h.1 hA hrp hru hrw hrx hry)
  · have h := h.2.2.2.2.2 c11
    refine q_aload_n eX11_layRowed_177 rfl ?_
    refine q_iload_n eX11_layRowed_178 rfl ?_
    refine q_iload eX11_layRowed_179 rfl ?_
    refine q_aload_n eX11_layRowed_181 rfl ?_
    refine q_iload_n eX11_layRowed_182 rfl ?_
    refine q_iload_n eX11_layRowed_183 rfl ?_
    refine q_V2 (ci := 11) (n := 0) eX11_layRowed_184 DX11_toldKind lX11_432 rfl (by decide) rfl rfl rfl rfl (h.1 hA hrp hru) ?_
    rintro _ _ ⟨s13, v13, rfl, hA13, r13, rfl, h⟩
    refine q_V3 (ci := 11) (n := 0) eX11_layRowed_187 DX11_ask lX11_422 rfl (by decide) rfl rfl rfl rfl (h.1 hA13 hru hrw r13) ?_
    rintro _ _ ⟨s14, rfl, hA14, rfl, h⟩
    refine q_aload_n eX11_layRowed_190 rfl ?_
    refine q_iload_n eX11_layRowed_191 rfl ?_
    refine q_iload eX11_layRowed_192 rfl ?_
    refine q_iload eX11_layRowed_194 rfl ?_
    refine q_V3 (ci := 11) (n := 0) eX11_layRowed_196 DX11_ask lX11_422 rfl (by decide) rfl rfl rfl rfl (h.1 hA14 hru hrx hrw) ?_
    rintro _ _ ⟨s15, rfl, hA15, rfl, h⟩
    exact q_ret eX11_layRowed_199 rfl ⟨_, rfl, hA15, rfl, h⟩
theorem eX11_layPlace_0 : decode cX11_layPlace 0 = .ok (.aload_n 0, 1) := by decide +kernel
theorem eX11_layPlace_1 : decode cX11_layPlace 1 = .ok (.iload_n 2, 1) := by decide +kernel
theorem eX11_layPlace_2 : decode cX11_layPlace 2 = .ok (.iload_n 3, 1) := by decide +kernel
theorem eX11_layPlace_3 : decode cX11_layPlace 3 = .ok (.invokevirtual 415, 3) := by decide +kernel
theorem eX11_layPlace_6 : decode cX11_layPlace 6 = .ok (.istore 4, 2) := by decide +kernel
theorem eX11_layPlace_8 : decode cX11_layPlace 8 = .ok (.bipush 40, 2) := by decide +kernel
theorem eX11_layPlace_10 : decode cX11_layPlace 10 = .ok (.iload_n 1, 1) := by decide +kernel
theorem eX11_layPlace_11 : decode cX11_layPlace 11 = .ok (.imul, 1) := by decide +kernel
theorem eX11_layPlace_12 : decode cX11_layPlace 12 = .ok (.iload_n 3, 1) := by decide +kernel
theorem eX11_layPlace_13 : decode cX11_layPlace 13 = .ok (.iadd, 1) := by decide +kernel
theorem eX11_layPlace_14 : decode cX11_layPlace 14 = .ok (.istore 5, 2) := by decide +kernel
theorem eX11_layPlace_16 : decode cX11_layPlace 16 = .ok (.aload_n 0, 1) := by decide +kernel
theorem eX11_layPlace_17 : decode cX11_layPlace 17 = .ok (.getfield 33, 3) := by decide +kernel
theorem eX11_layPlace_20 : decode cX11_layPlace 20 = .ok (.iload 5, 2) := by decide +kernel
theorem eX11_layPlace_22 : decode cX11_layPlace 22 = .ok (.iaload, 1) := by decide +kernel
theorem eX11_layPlace_23 : decode cX11_layPlace 23 = .ok (.invokestatic 365, 3) := by decide +kernel
theorem eX11_layPlace_26 : decode cX11_layPlace 26 = .ok (.ifCond .le 14, 3) := by decide +kernel
theorem eX11_layPlace_29 : decode cX11_layPlace 29 = .ok (.aload_n 0, 1) := by decide +kernel
theorem eX11_layPlace_30 : decode cX11_layPlace 30 = .ok (.iload_n 1, 1) := by decide +kernel
theorem eX11_layPlace_31 : decode cX11_layPlace 31 = .ok (.iload_n 2, 1) := by decide +kernel
theorem eX11_layPlace_32 : decode cX11_layPlace 32 = .ok (.iload_n 3, 1) := by decide +kernel
theorem eX11_layPlace_33 : decode cX11_layPlace 33 = .ok (.iconst 0, 1) := by decide +kernel
theorem eX11_layPlace_34 : decode cX11_layPlace 34 = .ok (.invokevirtual 418, 3) := by decide +kernel
theorem eX11_layPlace_37 : decode cX11_layPlace 37 = .ok (.goto 4, 3) := by decide +kernel
theorem eX11_layPlace_40 : decode cX11_layPlace 40 = .ok (.iconst (-1), 1) := by decide +kernel
theorem eX11_layPlace_41 : decode cX11_layPlace 41 = .ok (.istore 6, 2) := by decide +kernel
theorem eX11_layPlace_43 : decode cX11_layPlace 43 = .ok (.aload_n 0, 1) := by decide +kernel
theorem eX11_layPlace_44 : decode cX11_layPlace 44 = .ok (.getfield 33, 3) := by decide +kernel
theorem eX11_layPlace_47 : decode cX11_layPlace 47 = .ok (.iload 5, 2) := by decide +kernel
theorem eX11_layPlace_49 : decode cX11_layPlace 49 = .ok (.iaload, 1) := by decide +kernel
theorem eX11_layPlace_50 : decode cX11_layPlace 50 = .ok (.invokestatic 365, 3) := by decide +kernel
theorem eX11_layPlace_53 : decode cX11_layPlace 53 = .ok (.iconst 1, 1) := by decide +kernel
theorem eX11_layPlace_54 : decode cX11_layPlace 54 = .ok (.if_icmp .le 14, 3) := by decide +kernel
theorem eX11_layPlace_57 : decode cX11_layPlace 57 = .ok (.aload_n 0, 1) := by decide +kernel
theorem eX11_layPlace_58 : decode cX11_layPlace 58 = .ok (.iload_n 1, 1) := by decide +kernel
theorem eX11_layPlace_59 : decode cX11_layPlace 59 = .ok (.iload_n 2, 1) := by decide +kernel
theorem eX11_layPlace_60 : decode cX11_layPlace 60 = .ok (.iload_n 3, 1) := by decide +kernel
theorem eX11_layPlace_61 : decode cX11_layPlace 61 = .ok (.iconst 1, 1) := by decide +kernel
theorem eX11_layPlace_62 : decode cX11_layPlace 62 = .ok (.invokevirtual 418, 3) := by decide +kernel
theorem eX11_layPlace_65 : decode cX11_layPlace 65 = .ok (.goto 4, 3) := by decide +kernel
theorem eX11_layPlace_68 : decode cX11_layPlace 68 = .ok (.iconst (-1), 1) := by decide +kernel
theorem eX11_layPlace_69 : decode cX11_layPlace 69 = .ok (.istore 7, 2) := by decide +kernel
theorem eX11_layPlace_71 : decode cX11_layPlace 71 = .ok (.aload_n 0, 1) := by decide +kernel
theorem eX11_layPlace_72 : decode cX11_layPlace 72 = .ok (.getfield 33, 3) := by decide +kernel
theorem eX11_layPlace_75 : decode cX11_layPlace 75 = .ok (.iload 5, 2) := by decide +kernel
theorem eX11_layPlace_77 : decode cX11_layPlace 77 = .ok (.iaload, 1) := by decide +kernel
theorem eX11_layPlace_78 : decode cX11_layPlace 78 = .ok (.tableswitch 278 0 10 #[58, 72, 86, 96, 128, 140, 178, 197, 216, 237, 258], 58) := by decide +kernel
theorem eX11_layPlace_136 : decode cX11_layPlace 136 = .ok (.aload_n 0, 1) := by decide +kernel
theorem eX11_layPlace_137 : decode cX11_layPlace 137 = .ok (.iload_n 3, 1) := by decide +kernel
theorem eX11_layPlace_138 : decode cX11_layPlace 138 = .ok (.iload 4, 2) := by decide +kernel
theorem eX11_layPlace_140 : decode cX11_layPlace 140 = .ok (.aload_n 0, 1) := by decide +kernel
theorem eX11_layPlace_141 : decode cX11_layPlace 141 = .ok (.getfield 402, 3) := by decide +kernel
theorem eX11_layPlace_144 : decode cX11_layPlace 144 = .ok (.invokevirtual 422, 3) := by decide +kernel
theorem eX11_layPlace_147 : decode cX11_layPlace 147 = .ok (.goto 222, 3) := by decide +kernel
theorem eX11_layPlace_150 : decode cX11_layPlace 150 = .ok (.aload_n 0, 1) := by decide +kernel
theorem eX11_layPlace_151 : decode cX11_layPlace 151 = .ok (.iload_n 3, 1) := by decide +kernel
theorem eX11_layPlace_152 : decode cX11_layPlace 152 = .ok (.iload 4, 2) := by decide +kernel
theorem eX11_layPlace_154 : decode cX11_layPlace 154 = .ok (.aload_n 0, 1) := by decide +kernel
theorem eX11_layPlace_155 : decode cX11_layPlace 155 = .ok (.getfield 405, 3) := by decide +kernel
theorem eX11_layPlace_158 : decode cX11_layPlace 158 = .ok (.invokevirtual 422, 3) := by decide +kernel
theorem eX11_layPlace_161 : decode cX11_layPlace 161 = .ok (.goto 208, 3) := by decide +kernel
theorem eX11_layPlace_164 : decode cX11_layPlace 164 = .ok (.aload_n 0, 1) := by decide +kernel
theorem eX11_layPlace_165 : decode cX11_layPlace 165 = .ok (.iload_n 1, 1) := by decide +kernel
theorem eX11_layPlace_166 : decode cX11_layPlace 166 = .ok (.iload_n 2, 1) := by decide +kernel
theorem eX11_layPlace_167 : decode cX11_layPlace 167 = .ok (.iload_n 3, 1) := by decide +kernel
theorem eX11_layPlace_168 : decode cX11_layPlace 168 = .ok (.invokevirtual 425, 3) := by decide +kernel
theorem eX11_layPlace_171 : decode cX11_layPlace 171 = .ok (.goto 198, 3) := by decide +kernel
theorem eX11_layPlace_174 : decode cX11_layPlace 174 = .ok (.aload_n 0, 1) := by decide +kernel
theorem eX11_layPlace_175 : decode cX11_layPlace 175 = .ok (.iload_n 3, 1) := by decide +kernel
theorem eX11_layPlace_176 : decode cX11_layPlace 176 = .ok (.iload 4, 2) := by decide +kernel
theorem eX11_layPlace_178 : decode cX11_layPlace 178 = .ok (.aload_n 0, 1) := by decide +kernel
theorem eX11_layPlace_179 : decode cX11_layPlace 179 = .ok (.iconst 5, 1) := by decide +kernel
theorem eX11_layPlace_180 : decode cX11_layPlace 180 = .ok (.aload_n 0, 1) := by decide +kernel
theorem eX11_layPlace_181 : decode cX11_layPlace 181 = .ok (.getfield 115, 3) := by decide +kernel
theorem eX11_layPlace_184 : decode cX11_layPlace 184 = .ok (.iload_n 2, 1) := by decide +kernel
theorem eX11_layPlace_185 : decode cX11_layPlace 185 = .ok (.iaload, 1) := by decide +kernel
theorem eX11_layPlace_186 : decode cX11_layPlace 186 = .ok (.iload_n 3, 1) := by decide +kernel
theorem eX11_layPlace_187 : decode cX11_layPlace 187 = .ok (.iadd, 1) := by decide +kernel
theorem eX11_layPlace_188 : decode cX11_layPlace 188 = .ok (.aload_n 0, 1) := by decide +kernel
theorem eX11_layPlace_189 : decode cX11_layPlace 189 = .ok (.getfield 106, 3) := by decide +kernel
theorem eX11_layPlace_192 : decode cX11_layPlace 192 = .ok (.iload_n 2, 1) := by decide +kernel
theorem eX11_layPlace_193 : decode cX11_layPlace 193 = .ok (.iaload, 1) := by decide +kernel
theorem eX11_layPlace_194 : decode cX11_layPlace 194 = .ok (.isub, 1) := by decide +kernel
theorem eX11_layPlace_195 : decode cX11_layPlace 195 = .ok (.iload 6, 2) := by decide +kernel
theorem eX11_layPlace_197 : decode cX11_layPlace 197 = .ok (.invokevirtual 389, 3) := by decide +kernel
theorem eX11_layPlace_200 : decode cX11_layPlace 200 = .ok (.invokevirtual 422, 3) := by decide +kernel
theorem eX11_layPlace_203 : decode cX11_layPlace 203 = .ok (.goto 166, 3) := by decide +kernel
theorem eX11_layPlace_206 : decode cX11_layPlace 206 = .ok (.aload_n 0, 1) := by decide +kernel
theorem eX11_layPlace_207 : decode cX11_layPlace 207 = .ok (.iload_n 3, 1) := by decide +kernel
theorem eX11_layPlace_208 : decode cX11_layPlace 208 = .ok (.iload 4, 2) := by decide +kernel
theorem eX11_layPlace_210 : decode cX11_layPlace 210 = .ok (.iload 7, 2) := by decide +kernel
theorem eX11_layPlace_212 : decode cX11_layPlace 212 = .ok (.invokevirtual 422, 3) := by decide +kernel
theorem eX11_layPlace_215 : decode cX11_layPlace 215 = .ok (.goto 154, 3) := by decide +kernel
theorem eX11_layPlace_218 : decode cX11_layPlace 218 = .ok (.aload_n 0, 1) := by decide +kernel
theorem eX11_layPlace_219 : decode cX11_layPlace 219 = .ok (.iload_n 3, 1) := by decide +kernel
theorem eX11_layPlace_220 : decode cX11_layPlace 220 = .ok (.iload 6, 2) := by decide +kernel
theorem eX11_layPlace_222 : decode cX11_layPlace 222 = .ok (.aload_n 0, 1) := by decide +kernel
theorem eX11_layPlace_223 : decode cX11_layPlace 223 = .ok (.getfield 405, 3) := by decide +kernel
theorem eX11_layPlace_226 : decode cX11_layPlace 226 = .ok (.invokevirtual 422, 3) := by decide +kernel
theorem eX11_layPlace_229 : decode cX11_layPlace 229 = .ok (.aload_n 0, 1) := by decide +kernel
theorem eX11_layPlace_230 : decode cX11_layPlace 230 = .ok (.iload_n 3, 1) := by decide +kernel
theorem eX11_layPlace_231 : decode cX11_layPlace 231 = .ok (.iload 7, 2) := by decide +kernel
theorem eX11_layPlace_233 : decode cX11_layPlace 233 = .ok (.iload 4, 2) := by decide +kernel
theorem eX11_layPlace_235 : decode cX11_layPlace 235 = .ok (.invokevirtual 422, 3) := by decide +kernel
theorem eX11_layPlace_238 : decode cX11_layPlace 238 = .ok (.aload_n 0, 1) := by decide +kernel
theorem eX11_layPlace_239 : decode cX11_layPlace 239 = .ok (.iload_n 3, 1) := by decide +kernel
theorem eX11_layPlace_240 : decode cX11_layPlace 240 = .ok (.aload_n 0, 1) := by decide +kernel
theorem eX11_layPlace_241 : decode cX11_layPlace 241 = .ok (.iload_n 1, 1) := by decide +kernel
theorem eX11_layPlace_242 : decode cX11_layPlace 242 = .ok (.iload_n 2, 1) := by decide +kernel
theorem eX11_layPlace_243 : decode cX11_layPlace 243 = .ok (.iload_n 3, 1) := by decide +kernel
theorem eX11_layPlace_244 : decode cX11_layPlace 244 = .ok (.iconst 2, 1) := by decide +kernel
theorem eX11_layPlace_245 : decode cX11_layPlace 245 = .ok (.invokevirtual 418, 3) := by decide +kernel
theorem eX11_layPlace_248 : decode cX11_layPlace 248 = .ok (.iload 4, 2) := by decide +kernel
theorem eX11_layPlace_250 : decode cX11_layPlace 250 = .ok (.invokevirtual 422, 3) := by decide +kernel
theorem eX11_layPlace_253 : decode cX11_layPlace 253 = .ok (.goto 116, 3) := by decide +kernel
theorem eX11_layPlace_256 : decode cX11_layPlace 256 = .ok (.aload_n 0, 1) := by decide +kernel
theorem eX11_layPlace_257 : decode cX11_layPlace 257 = .ok (.iload_n 3, 1) := by decide +kernel
theorem eX11_layPlace_258 : decode cX11_layPlace 258 = .ok (.iload 6, 2) := by decide +kernel
theorem eX11_layPlace_260 : decode cX11_layPlace 260 = .ok (.aload_n 0, 1) := by decide +kernel
theorem eX11_layPlace_261 : decode cX11_layPlace 261 = .ok (.iconst 5, 1) := by decide +kernel
theorem eX11_layPlace_262 : decode cX11_layPlace 262 = .ok (.iload 7, 2) := by decide +kernel
theorem eX11_layPlace_264 : decode cX11_layPlace 264 = .ok (.iload 4, 2) := by decide +kernel
theorem eX11_layPlace_266 : decode cX11_layPlace 266 = .ok (.invokevirtual 389, 3) := by decide +kernel
theorem eX11_layPlace_269 : decode cX11_layPlace 269 = .ok (.invokevirtual 422, 3) := by decide +kernel
theorem eX11_layPlace_272 : decode cX11_layPlace 272 = .ok (.goto 97, 3) := by decide +kernel
theorem eX11_layPlace_275 : decode cX11_layPlace 275 = .ok (.aload_n 0, 1) := by decide +kernel
theorem eX11_layPlace_276 : decode cX11_layPlace 276 = .ok (.iload_n 3, 1) := by decide +kernel
theorem eX11_layPlace_277 : decode cX11_layPlace 277 = .ok (.iload 4, 2) := by decide +kernel
theorem eX11_layPlace_279 : decode cX11_layPlace 279 = .ok (.aload_n 0, 1) := by decide +kernel
theorem eX11_layPlace_280 : decode cX11_layPlace 280 = .ok (.iconst 4, 1) := by decide +kernel
theorem eX11_layPlace_281 : decode cX11_layPlace 281 = .ok (.iload 6, 2) := by decide +kernel
theorem eX11_layPlace_283 : decode cX11_layPlace 283 = .ok (.iload 7, 2) := by decide +kernel
theorem eX11_layPlace_285 : decode cX11_layPlace 285 = .ok (.invokevirtual 389, 3) := by decide +kernel
theorem eX11_layPlace_288 : decode cX11_layPlace 288 = .ok (.invokevirtual 422, 3) := by decide +kernel
theorem eX11_layPlace_291 : decode cX11_layPlace 291 = .ok (.goto 78, 3) := by decide +kernel
theorem eX11_layPlace_294 : decode cX11_layPlace 294 = .ok (.aload_n 0, 1) := by decide +kernel
theorem eX11_layPlace_295 : decode cX11_layPlace 295 = .ok (.iload_n 3, 1) := by decide +kernel
theorem eX11_layPlace_296 : decode cX11_layPlace 296 = .ok (.iload 6, 2) := by decide +kernel
theorem eX11_layPlace_298 : decode cX11_layPlace 298 = .ok (.aload_n 0, 1) := by decide +kernel
theorem eX11_layPlace_299 : decode cX11_layPlace 299 = .ok (.iconst 4, 1) := by decide +kernel
theorem eX11_layPlace_300 : decode cX11_layPlace 300 = .ok (.iload 4, 2) := by decide +kernel
theorem eX11_layPlace_302 : decode cX11_layPlace 302 = .ok (.aload_n 0, 1) := by decide +kernel
theorem eX11_layPlace_303 : decode cX11_layPlace 303 = .ok (.invokevirtual 399, 3) := by decide +kernel
theorem eX11_layPlace_306 : decode cX11_layPlace 306 = .ok (.invokevirtual 389, 3) := by decide +kernel
theorem eX11_layPlace_309 : decode cX11_layPlace 309 = .ok (.invokevirtual 422, 3) := by decide +kernel
theorem eX11_layPlace_312 : decode cX11_layPlace 312 = .ok (.goto 57, 3) := by decide +kernel
theorem eX11_layPlace_315 : decode cX11_layPlace 315 = .ok (.aload_n 0, 1) := by decide +kernel
theorem eX11_layPlace_316 : decode cX11_layPlace 316 = .ok (.iload_n 3, 1) := by decide +kernel
theorem eX11_layPlace_317 : decode cX11_layPlace 317 = .ok (.iload 6, 2) := by decide +kernel
theorem eX11_layPlace_319 : decode cX11_layPlace 319 = .ok (.aload_n 0, 1) := by decide +kernel
theorem eX11_layPlace_320 : decode cX11_layPlace 320 = .ok (.iconst 4, 1) := by decide +kernel
theorem eX11_layPlace_321 : decode cX11_layPlace 321 = .ok (.aload_n 0, 1) := by decide +kernel
theorem eX11_layPlace_322 : decode cX11_layPlace 322 = .ok (.invokevirtual 399, 3) := by decide +kernel
theorem eX11_layPlace_325 : decode cX11_layPlace 325 = .ok (.iload 4, 2) := by decide +kernel
theorem eX11_layPlace_327 : decode cX11_layPlace 327 = .ok (.invokevirtual 389, 3) := by decide +kernel
theorem eX11_layPlace_330 : decode cX11_layPlace 330 = .ok (.invokevirtual 422, 3) := by decide +kernel
theorem eX11_layPlace_333 : decode cX11_layPlace 333 = .ok (.goto 36, 3) := by decide +kernel
theorem eX11_layPlace_336 : decode cX11_layPlace 336 = .ok (.aload_n 0, 1) := by decide +kernel
theorem eX11_layPlace_337 : decode cX11_layPlace 337 = .ok (.iload_n 3, 1) := by decide +kernel
theorem eX11_layPlace_338 : decode cX11_layPlace 338 = .ok (.iload 4, 2) := by decide +kernel
theorem eX11_layPlace_340 : decode cX11_layPlace 340 = .ok (.aload_n 0, 1) := by decide +kernel
theorem eX11_layPlace_341 : decode cX11_layPlace 341 = .ok (.iconst 3, 1) := by decide +kernel
theorem eX11_layPlace_342 : decode cX11_layPlace 342 = .ok (.aload_n 0, 1) := by decide +kernel
theorem eX11_layPlace_343 : decode cX11_layPlace 343 = .ok (.invokevirtual 399, 3) := by decide +kernel
theorem eX11_layPlace_346 : decode cX11_layPlace 346 = .ok (.iconst 0, 1) := by decide +kernel
theorem eX11_layPlace_347 : decode cX11_layPlace 347 = .ok (.invokevirtual 389, 3) := by decide +kernel
theorem eX11_layPlace_350 : decode cX11_layPlace 350 = .ok (.invokevirtual 422, 3) := by decide +kernel
theorem eX11_layPlace_353 : decode cX11_layPlace 353 = .ok (.goto 16, 3) := by decide +kernel
theorem eX11_layPlace_356 : decode cX11_layPlace 356 = .ok (.aload_n 0, 1) := by decide +kernel
theorem eX11_layPlace_357 : decode cX11_layPlace 357 = .ok (.iload_n 1, 1) := by decide +kernel
theorem eX11_layPlace_358 : decode cX11_layPlace 358 = .ok (.iload_n 2, 1) := by decide +kernel
theorem eX11_layPlace_359 : decode cX11_layPlace 359 = .ok (.iload_n 3, 1) := by decide +kernel
theorem eX11_layPlace_360 : decode cX11_layPlace 360 = .ok (.iload 4, 2) := by decide +kernel
theorem eX11_layPlace_362 : decode cX11_layPlace 362 = .ok (.iload 6, 2) := by decide +kernel
theorem eX11_layPlace_364 : decode cX11_layPlace 364 = .ok (.iload 7, 2) := by decide +kernel
theorem eX11_layPlace_366 : decode cX11_layPlace 366 = .ok (.invokevirtual 428, 3) := by decide +kernel
theorem eX11_layPlace_369 : decode cX11_layPlace 369 = .ok (.return_, 1) := by decide +kernel
def C_X11_layPlace (s : ST) (p : Int) (q : Int) (u : Int) (Q : ST → Prop) : Prop := bx <| RA s → R32 p → R32 q → R32 u → q_met mX11_layPlace (qs layM s) [.ref 139, .int (Int32.ofInt p), .int (Int32.ofInt q), .int (Int32.ofInt u)] (PV layM Q)
theorem C_X11_layPlace.mono {s : ST} {p : Int} {q : Int} {u : Int} {Q Q' : ST → Prop} (h : C_X11_layPlace s p q u Q) (hq : ∀ s, Q s → Q' s) : C_X11_layPlace s p q u Q' := ⟨fun hA hrp hrq hru => q_met.mono (h.1 hA hrp hrq hru) (fun _ _ => PV.mono hq), trivial⟩
def K_X11_layPlace_69 (s : ST) (a1 : Int) (a2 : Int) (a3 : Int) (a4 : Int) (a5 : Int) (a6 : Int) (t0 : Int) (Q : ST → Prop) : Prop := bx <| RA s → R32 a1 → R32 a2 → R32 a3 → R32 a4 → R32 a5 → R32 a6 → R32 t0 → q_K mX11_layPlace (qs layM s) 0 0 69 [(0, .ref 139), (1, .int (Int32.ofInt a1)), (2, .int (Int32.ofInt a2)), (3, .int (Int32.ofInt a3)), (4, .int (Int32.ofInt a4)), (5, .int (Int32.ofInt a5)), (6, .int (Int32.ofInt a6))] [.int (Int32.ofInt t0)] (q_fin mX11_layPlace (PV layM Q))
def K_X11_layPlace_41 (s : ST) (a1 : Int) (a2 : Int) (a3 : Int) (a4 : Int) (a5 : Int) (t0 : Int) (Q : ST → Prop) : Prop := bx <| RA s → R32 a1 → R32 a2 → R32 a3 → R32 a4 → R32 a5 → R32 t0 → q_K mX11_layPlace (qs layM s) 0 0 41 [(0, .ref 139), (1, .int (Int32.ofInt a1)), (2, .int (Int32.ofInt a2)), (3, .int (Int32.ofInt a3)), (4, .int (Int32.ofInt a4)), (5, .int (Int32.ofInt a5))] [.int (Int32.ofInt t0)] (q_fin mX11_layPlace (PV layM Q))
set_option maxRecDepth 20000 in
theorem s_X11_layPlace_69 {s : ST} {a1 : Int} {a2 : Int} {a3 : Int} {a4 : Int} {a5 : Int} {a6 : Int} {t0 : Int} {Q : ST → Prop} (h : RA s → R32 a1 → R32 a2 → R32 a3 → R32 a4 → R32 a5 → R32 a6 → R32 t0 → (((0 : Int) ≤ a5 ∧ a5 < 240) ∧ ((s.1 146 a5 = 0 → (C_X11_ask s a3 a4 (s.1 139 50) (fun s2 => Q s2))) ∧ (s.1 146 a5 = 1 → (C_X11_ask s a3 a4 (s.1 139 51) (fun s3 => Q s3))) ∧ (s.1 146 a5 = 2 → (C_X11_layName s a1 a2 a3 (fun s4 => Q s4))) ∧ (s.1 146 a5 = 3 → (((0 : Int) ≤ a2 ∧ a2 < 420) ∧ (R32 (s.1 173 a2 + a3) ∧ (R32 ((s.1 173 a2 + a3) - s.1 170 a2) ∧ (C_X11_term s 5 ((s.1 173 a2 + a3) - s.1 170 a2) a6 (fun s8 v8 => (C_X11_ask s8 a3 a4 v8 (fun s9 => Q s9)))))))) ∧ (s.1 146 a5 = 4 → (C_X11_ask s a3 a4 t0 (fun s10 => Q s10))) ∧ (s.1 146 a5 = 5 → (C_X11_ask s a3 a6 (s.1 139 51) (fun s11 => (C_X11_ask s11 a3 t0 a4 (fun s12 => (P_X11_kidKind s12 a1 a2 a3 2 ∧ (C_X11_ask s12 a3 ((s12.1 172 a2 + (s12.1 152 ((3 * ((40 * a1) + a3)) + 2))) - s12.1 170 a2) a4 (fun s15 => Q s15)))))))) ∧ (s.1 146 a5 = 6 → (C_X11_term s 5 t0 a4 (fun s16 v16 => (C_X11_ask s16 a3 a6 v16 (fun s17 => Q s17))))) ∧ (s.1 146 a5 = 7 → (C_X11_term s 4 a6 t0 (fun s18 v18 => (C_X11_ask s18 a3 a4 v18 (fun s19 => Q s19))))) ∧ (s.1 146 a5 = 8 → (C_X11_openTerm s (fun s20 v20 => (C_X11_term s20 4 a4 v20 (fun s21 v21 => (C_X11_ask s21 a3 a6 v21 (fun s22 => Q s22))))))) ∧ (s.1 146 a5 = 9 → (C_X11_openTerm s (fun s23 v23 => (C_X11_term s23 4 v23 a4 (fun s24 v24 => (C_X11_ask s24 a3 a6 v24 (fun s25 => Q s25))))))) ∧ (s.1 146 a5 = 10 → (C_X11_openTerm s (fun s26 v26 => (C_X11_term s26 3 v26 0 (fun s27 v27 => (C_X11_ask s27 a3 a4 v27 (fun s28 => Q s28))))))) ∧ ((s.1 146 a5 < 0 ∨ 10 < s.1 146 a5) → (C_X11_layRowed s a1 a2 a3 a4 a6 t0 (fun s29 => Q s29)))))) : K_X11_layPlace_69 s a1 a2 a3 a4 a5 a6 t0 Q := by
  refine ⟨?_, trivial⟩
  intro hA hra1 hra2 hra3 hra4 hra5 hra6 hrt0
  have h := h hA hra1 hra2 hra3 hra4 hra5 hra6 hrt0
  refine q_istore eX11_layPlace_69 (Nat.le_of_ble_eq_true rfl) ?_
  refine q_aload_n eX11_layPlace_71 rfl ?_
  refine q_getR (c := 11) (n := 0) (k := 15) (a := 146) eX11_layPlace_72 rfl (by decide) (by decide) fX11_33 rfl rfl ?_
  refine q_iload eX11_layPlace_75 rfl ?_
  have f1 := h.1
  have h := h.2
  refine z_iald (n := 240) eX11_layPlace_77 rfl (ofz hra5) f1 ?_
  refine q_topI (v := Int32.ofInt (s.1 146 a5)) rfl ?_
  refine q_tab11 136 150 164 174 206 218 256 275 294 315 336 356 eX11_layPlace_78 rfl rfl (by decide) (z := s.1 146 a5) (ofz (hA _ _)) (fun c78 => ?_) (fun c78 => ?_) (fun c78 => ?_) (fun c78 => ?_) (fun c78 => ?_) (fun c78 => ?_) (fun c78 => ?_) (fun c78 => ?_) (fun c78 => ?_) (fun c78 => ?_) (fun c78 => ?_) (fun c78 => ?_)
  · have h := h.1 c78
    refine q_aload_n eX11_layPlace_136 rfl ?_
    refine q_iload_n eX11_layPlace_137 rfl ?_
    refine q_iload eX11_layPlace_138 rfl ?_
    refine q_aload_n eX11_layPlace_140 rfl ?_
    refine q_getf (c := 11) (n := 0) (k := 50) (v := .int (Int32.ofInt (s.1 139 50))) eX11_layPlace_141 rfl (by decide) (by decide) fX11_402 rfl ?_
    refine q_V3 (ci := 11) (n := 0) eX11_layPlace_144 DX11_ask lX11_422 rfl (by decide) rfl rfl rfl rfl (h.1 hA hra3 hra4 (hA _ _)) ?_
    rintro _ _ ⟨s2, rfl, hA2, rfl, h⟩
    refine q_goto (tgt := 369) eX11_layPlace_147 (by decide) ?_
    exact q_ret eX11_layPlace_369 rfl ⟨_, rfl, hA2, rfl, h⟩
  · have h := h.2.1 c78
    refine q_aload_n eX11_layPlace_150 rfl ?_
    refine q_iload_n eX11_layPlace_151 rfl ?_
    refine q_iload eX11_layPlace_152 rfl ?_
    refine q_aload_n eX11_layPlace_154 rfl ?_
    refine q_getf (c := 11) (n := 0) (k := 51) (v := .int (Int32.ofInt (s.1 139 51))) eX11_layPlace_155 rfl (by decide) (by decide) fX11_405 rfl ?_
    refine q_V3 (ci := 11) (n := 0) eX11_layPlace_158 DX11_ask lX11_422 rfl (by decide) rfl rfl rfl rfl (h.1 hA hra3 hra4 (hA _ _)) ?_
    rintro _ _ ⟨s3, rfl, hA3, rfl, h⟩
    refine q_goto (tgt := 369) eX11_layPlace_161 (by decide) ?_
    exact q_ret eX11_layPlace_369 rfl ⟨_, rfl, hA3, rfl, h⟩
  · have h := h.2.2.1 c78
    refine q_aload_n eX11_layPlace_164 rfl ?_
    refine q_iload_n eX11_layPlace_165 rfl ?_
    refine q_iload_n eX11_layPlace_166 rfl ?_
    refine q_iload_n eX11_layPlace_167 rfl ?_
    refine q_V3 (ci := 11) (n := 0) eX11_layPlace_168 DX11_layName lX11_425 rfl (by decide) rfl rfl rfl rfl (h.1 hA hra1 hra2 hra3) ?_
    rintro _ _ ⟨s4, rfl, hA4, rfl, h⟩
    refine q_goto (tgt := 369) eX11_layPlace_171 (by decide) ?_
    exact q_ret eX11_layPlace_369 rfl ⟨_, rfl, hA4, rfl, h⟩
  · have h := h.2.2.2.1 c78
    refine q_aload_n eX11_layPlace_174 rfl ?_
    refine q_iload_n eX11_layPlace_175 rfl ?_
    refine q_iload eX11_layPlace_176 rfl ?_
    refine q_aload_n eX11_layPlace_178 rfl ?_
    refine q_ic (v := Int32.ofInt 5) eX11_layPlace_179 rfl ?_
    refine q_aload_n eX11_layPlace_180 rfl ?_
    refine q_getR (c := 11) (n := 0) (k := 45) (a := 173) eX11_layPlace_181 rfl (by decide) (by decide) fX11_115 rfl rfl ?_
    refine q_iload_n eX11_layPlace_184 rfl ?_
    have f5 := h.1
    have h := h.2
    refine z_iald (n := 420) eX11_layPlace_185 rfl (ofz hra2) f5 ?_
    refine q_topI (v := Int32.ofInt (s.1 173 a2)) rfl ?_
    refine q_iload_n eX11_layPlace_186 rfl ?_
    refine z_iadd eX11_layPlace_187 ?_
    have r6 := h.1
    have h := h.2
    refine q_aload_n eX11_layPlace_188 rfl ?_
    refine q_getR (c := 11) (n := 0) (k := 42) (a := 170) eX11_layPlace_189 rfl (by decide) (by decide) fX11_106 rfl rfl ?_
    refine q_iload_n eX11_layPlace_192 rfl ?_
    refine z_iald (n := 420) eX11_layPlace_193 rfl (ofz hra2) f5 ?_
    refine q_topI (v := Int32.ofInt (s.1 170 a2)) rfl ?_
    refine z_isub eX11_layPlace_194 ?_
    have r7 := h.1
    have h := h.2
    refine q_iload eX11_layPlace_195 rfl ?_
    refine q_V3 (ci := 11) (n := 0) eX11_layPlace_197 DX11_term lX11_389 rfl (by decide) rfl rfl rfl rfl (h.1 hA (r32l rfl) r7 hra6) ?_
    rintro _ _ ⟨s8, v8, rfl, hA8, r8, rfl, h⟩
    refine q_V3 (ci := 11) (n := 0) eX11_layPlace_200 DX11_ask lX11_422 rfl (by decide) rfl rfl rfl rfl (h.1 hA8 hra3 hra4 r8) ?_
    rintro _ _ ⟨s9, rfl, hA9, rfl, h⟩
    refine q_goto (tgt := 369) eX11_layPlace_203 (by decide) ?_
    exact q_ret eX11_layPlace_369 rfl ⟨_, rfl, hA9, rfl, h⟩
  · have h := h.2.2.2.2.1 c78
    refine q_aload_n eX11_layPlace_206 rfl ?_
    refine q_iload_n eX11_layPlace_207 rfl ?_
    refine q_iload eX11_layPlace_208 rfl ?_
    refine q_iload eX11_layPlace_210 rfl ?_
    refine q_V3 (ci := 11) (n := 0) eX11_layPlace_212 DX11_ask lX11_422 rfl (by decide) rfl rfl rfl rfl (h.1 hA hra3 hra4 hrt0) ?_
    rintro _ _ ⟨s10, rfl, hA10, rfl, h⟩
    refine q_goto (tgt := 369) eX11_layPlace_215 (by decide) ?_
    exact q_ret eX11_layPlace_369 rfl ⟨_, rfl, hA10, rfl, h⟩
  · have h := h.2.2.2.2.2.1 c78
    refine q_aload_n eX11_layPlace_218 rfl ?_
    refine q_iload_n eX11_layPlace_219 rfl ?_
    refine q_iload eX11_layPlace_220 rfl ?_
    refine q_aload_n eX11_layPlace_222 rfl ?_
    refine q_getf (c := 11) (n := 0) (k := 51) (v := .int (Int32.ofInt (s.1 139 51))) eX11_layPlace_223 rfl (by decide) (by decide) fX11_405 rfl ?_
    refine q_V3 (ci := 11) (n := 0) eX11_layPlace_226 DX11_ask lX11_422 rfl (by decide) rfl rfl rfl rfl (h.1 hA hra3 hra6 (hA _ _)) ?_
    rintro _ _ ⟨s11, rfl, hA11, rfl, h⟩
    refine q_aload_n eX11_layPlace_229 rfl ?_
    refine q_iload_n eX11_layPlace_230 rfl ?_
    refine q_iload eX11_layPlace_231 rfl ?_
    refine q_iload eX11_layPlace_233 rfl ?_
    refine q_V3 (ci := 11) (n := 0) eX11_layPlace_235 DX11_ask lX11_422 rfl (by decide) rfl rfl rfl rfl (h.1 hA11 hra3 hrt0 hra4) ?_
    rintro _ _ ⟨s12, rfl, hA12, rfl, h⟩
    refine q_aload_n eX11_layPlace_238 rfl ?_
    refine q_iload_n eX11_layPlace_239 rfl ?_
    refine q_aload_n eX11_layPlace_240 rfl ?_
    refine q_iload_n eX11_layPlace_241 rfl ?_
    refine q_iload_n eX11_layPlace_242 rfl ?_
    refine q_iload_n eX11_layPlace_243 rfl ?_
    refine q_ic (v := Int32.ofInt 2) eX11_layPlace_244 rfl ?_
    have f14 := h.1
    have h := h.2
    refine q_V4 (ci := 11) (n := 0) eX11_layPlace_245 DX11_kidKind lX11_418 rfl (by decide) rfl rfl rfl rfl (p_X11_kidKind f14 hA12 hra1 hra2 hra3 (r32l rfl)) ?_
    rintro _ _ ⟨r13, rfl, rfl⟩
    refine q_iload eX11_layPlace_248 rfl ?_
    refine q_V3 (ci := 11) (n := 0) eX11_layPlace_250 DX11_ask lX11_422 rfl (by decide) rfl rfl rfl rfl (h.1 hA12 hra3 r13 hra4) ?_
    rintro _ _ ⟨s15, rfl, hA15, rfl, h⟩
    refine q_goto (tgt := 369) eX11_layPlace_253 (by decide) ?_
    exact q_ret eX11_layPlace_369 rfl ⟨_, rfl, hA15, rfl, h⟩
  · have h := h.2.2.2.2.2.2.1 c78
    refine q_aload_n eX11_layPlace_256 rfl ?_
    refine q_iload_n eX11_layPlace_257 rfl ?_
    refine q_iload eX11_layPlace_258 rfl ?_
    refine q_aload_n eX11_layPlace_260 rfl ?_
    refine q_ic (v := Int32.ofInt 5) eX11_layPlace_261 rfl ?_
    refine q_iload eX11_layPlace_262 rfl ?_
    refine q_iload eX11_layPlace_264 rfl ?_
    refine q_V3 (ci := 11) (n := 0) eX11_layPlace_266 DX11_term lX11_389 rfl (by decide) rfl rfl rfl rfl (h.1 hA (r32l rfl) hrt0 hra4) ?_
    rintro _ _ ⟨s16, v16, rfl, hA16, r16, rfl, h⟩
    refine q_V3 (ci := 11) (n := 0) eX11_layPlace_269 DX11_ask lX11_422 rfl (by decide) rfl rfl rfl rfl (h.1 hA16 hra3 hra6 r16) ?_
    rintro _ _ ⟨s17, rfl, hA17, rfl, h⟩
    refine q_goto (tgt := 369) eX11_layPlace_272 (by decide) ?_
    exact q_ret eX11_layPlace_369 rfl ⟨_, rfl, hA17, rfl, h⟩
  · have h := h.2.2.2.2.2.2.2.1 c78
    refine q_aload_n eX11_layPlace_275 rfl ?_
    refine q_iload_n eX11_layPlace_276 rfl ?_
    refine q_iload eX11_layPlace_277 rfl ?_
    refine q_aload_n eX11_layPlace_279 rfl ?_
    refine q_ic (v := Int32.ofInt 4) eX11_layPlace_280 rfl ?_
    refine q_iload eX11_layPlace_281 rfl ?_
    refine q_iload eX11_layPlace_283 rfl ?_
    refine q_V3 (ci := 11) (n := 0) eX11_layPlace_285 DX11_term lX11_389 rfl (by decide) rfl rfl rfl rfl (h.1 hA (r32l rfl) hra6 hrt0) ?_
    rintro _ _ ⟨s18, v18, rfl, hA18, r18, rfl, h⟩
    refine q_V3 (ci := 11) (n := 0) eX11_layPlace_288 DX11_ask lX11_422 rfl (by decide) rfl rfl rfl rfl (h.1 hA18 hra3 hra4 r18) ?_
    rintro _ _ ⟨s19, rfl, hA19, rfl, h⟩
    refine q_goto (tgt := 369) eX11_layPlace_291 (by decide) ?_
    exact q_ret eX11_layPlace_369 rfl ⟨_, rfl, hA19, rfl, h⟩
  · have h := h.2.2.2.2.2.2.2.2.1 c78
    refine q_aload_n eX11_layPlace_294 rfl ?_
    refine q_iload_n eX11_layPlace_295 rfl ?_
    refine q_iload eX11_layPlace_296 rfl ?_
    refine q_aload_n eX11_layPlace_298 rfl ?_
    refine q_ic (v := Int32.ofInt 4) eX11_layPlace_299 rfl ?_
    refine q_iload eX11_layPlace_300 rfl ?_
    refine q_aload_n eX11_layPlace_302 rfl ?_
    refine q_V0 (ci := 11) (n := 0) eX11_layPlace_303 DX11_openTerm lX11_399 rfl (by decide) rfl rfl rfl rfl (h.1 hA) ?_
    rintro _ _ ⟨s20, v20, rfl, hA20, r20, rfl, h⟩
    refine q_V3 (ci := 11) (n := 0) eX11_layPlace_306 DX11_term lX11_389 rfl (by decide) rfl rfl rfl rfl (h.1 hA20 (r32l rfl) hra4 r20) ?_
    rintro _ _ ⟨s21, v21, rfl, hA21, r21, rfl, h⟩
    refine q_V3 (ci := 11) (n := 0) eX11_layPlace_309 DX11_ask lX11_422 rfl (by decide) rfl rfl rfl rfl (h.1 hA21 hra3 hra6 r21) ?_
    rintro _ _ ⟨s22, rfl, hA22, rfl, h⟩
    refine q_goto (tgt := 369) eX11_layPlace_312 (by decide) ?_
    exact q_ret eX11_layPlace_369 rfl ⟨_, rfl, hA22, rfl, h⟩
  · have h := h.2.2.2.2.2.2.2.2.2.1 c78
    refine q_aload_n eX11_layPlace_315 rfl ?_
    refine q_iload_n eX11_layPlace_316 rfl ?_
    refine q_iload eX11_layPlace_317 rfl ?_
    refine q_aload_n eX11_layPlace_319 rfl ?_
    refine q_ic (v := Int32.ofInt 4) eX11_layPlace_320 rfl ?_
    refine q_aload_n eX11_layPlace_321 rfl ?_
    refine q_V0 (ci := 11) (n := 0) eX11_layPlace_322 DX11_openTerm lX11_399 rfl (by decide) rfl rfl rfl rfl (h.1 hA) ?_
    rintro _ _ ⟨s23, v23, rfl, hA23, r23, rfl, h⟩
    refine q_iload eX11_layPlace_325 rfl ?_
    refine q_V3 (ci := 11) (n := 0) eX11_layPlace_327 DX11_term lX11_389 rfl (by decide) rfl rfl rfl rfl (h.1 hA23 (r32l rfl) r23 hra4) ?_
    rintro _ _ ⟨s24, v24, rfl, hA24, r24, rfl, h⟩
    refine q_V3 (ci := 11) (n := 0) eX11_layPlace_330 DX11_ask lX11_422 rfl (by decide) rfl rfl rfl rfl (h.1 hA24 hra3 hra6 r24) ?_
    rintro _ _ ⟨s25, rfl, hA25, rfl, h⟩
    refine q_goto (tgt := 369) eX11_layPlace_333 (by decide) ?_
    exact q_ret eX11_layPlace_369 rfl ⟨_, rfl, hA25, rfl, h⟩
  · have h := h.2.2.2.2.2.2.2.2.2.2.1 c78
    refine q_aload_n eX11_layPlace_336 rfl ?_
    refine q_iload_n eX11_layPlace_337 rfl ?_
    refine q_iload eX11_layPlace_338 rfl ?_
    refine q_aload_n eX11_layPlace_340 rfl ?_
    refine q_ic (v := Int32.ofInt 3) eX11_layPlace_341 rfl ?_
    refine q_aload_n eX11_layPlace_342 rfl ?_
    refine q_V0 (ci := 11) (n := 0) eX11_layPlace_343 DX11_openTerm lX11_399 rfl (by decide) rfl rfl rfl rfl (h.1 hA) ?_
    rintro _ _ ⟨s26, v26, rfl, hA26, r26, rfl, h⟩
    refine q_ic (v := Int32.ofInt 0) eX11_layPlace_346 rfl ?_
    refine q_V3 (ci := 11) (n := 0) eX11_layPlace_347 DX11_term lX11_389 rfl (by decide) rfl rfl rfl rfl (h.1 hA26 (r32l rfl) r26 (r32l rfl)) ?_
    rintro _ _ ⟨s27, v27, rfl, hA27, r27, rfl, h⟩
    refine q_V3 (ci := 11) (n := 0) eX11_layPlace_350 DX11_ask lX11_422 rfl (by decide) rfl rfl rfl rfl (h.1 hA27 hra3 hra4 r27) ?_
    rintro _ _ ⟨s28, rfl, hA28, rfl, h⟩
    refine q_goto (tgt := 369) eX11_layPlace_353 (by decide) ?_
    exact q_ret eX11_layPlace_369 rfl ⟨_, rfl, hA28, rfl, h⟩
  · have h := h.2.2.2.2.2.2.2.2.2.2.2 c78
    refine q_aload_n eX11_layPlace_356 rfl ?_
    refine q_iload_n eX11_layPlace_357 rfl ?_
    refine q_iload_n eX11_layPlace_358 rfl ?_
    refine q_iload_n eX11_layPlace_359 rfl ?_
    refine q_iload eX11_layPlace_360 rfl ?_
    refine q_iload eX11_layPlace_362 rfl ?_
    refine q_iload eX11_layPlace_364 rfl ?_
    refine q_V6 (ci := 11) (n := 0) eX11_layPlace_366 DX11_layRowed lX11_428 rfl (by decide) rfl rfl rfl rfl (h.1 hA hra1 hra2 hra3 hra4 hra6 hrt0) ?_
    rintro _ _ ⟨s29, rfl, hA29, rfl, h⟩
    exact q_ret eX11_layPlace_369 rfl ⟨_, rfl, hA29, rfl, h⟩
set_option maxRecDepth 20000 in
theorem s_X11_layPlace_41 {s : ST} {a1 : Int} {a2 : Int} {a3 : Int} {a4 : Int} {a5 : Int} {t0 : Int} {Q : ST → Prop} (h : RA s → R32 a1 → R32 a2 → R32 a3 → R32 a4 → R32 a5 → R32 t0 → (((0 : Int) ≤ a5 ∧ a5 < 240) ∧ (((F_X11_kidsOf s (s.1 146 a5)) ≤ 1 → K_X11_layPlace_69 s a1 a2 a3 a4 a5 t0 (-1) Q) ∧ (¬ (F_X11_kidsOf s (s.1 146 a5)) ≤ 1 → (P_X11_kidKind s a1 a2 a3 1 ∧ K_X11_layPlace_69 s a1 a2 a3 a4 a5 t0 ((s.1 172 a2 + (s.1 152 ((3 * ((40 * a1) + a3)) + 1))) - s.1 170 a2) Q))))) : K_X11_layPlace_41 s a1 a2 a3 a4 a5 t0 Q := by
  refine ⟨?_, trivial⟩
  intro hA hra1 hra2 hra3 hra4 hra5 hrt0
  have h := h hA hra1 hra2 hra3 hra4 hra5 hrt0
  refine q_istore eX11_layPlace_41 (Nat.le_of_ble_eq_true rfl) ?_
  refine q_aload_n eX11_layPlace_43 rfl ?_
  refine q_getR (c := 11) (n := 0) (k := 15) (a := 146) eX11_layPlace_44 rfl (by decide) (by decide) fX11_33 rfl rfl ?_
  refine q_iload eX11_layPlace_47 rfl ?_
  have f1 := h.1
  have h := h.2
  refine z_iald (n := 240) eX11_layPlace_49 rfl (ofz hra5) f1 ?_
  refine q_topI (v := Int32.ofInt (s.1 146 a5)) rfl ?_
  refine q_S1 eX11_layPlace_50 DX11_kidsOf lX11_365 rfl rfl rfl (p_X11_kidsOf hA (hA _ _)) ?_
  rintro _ _ ⟨r2, rfl, rfl⟩
  refine q_ic (v := Int32.ofInt 1) eX11_layPlace_53 rfl ?_
  refine q_cz_le (tgt := 68) (a := (F_X11_kidsOf s (s.1 146 a5))) (b := 1) eX11_layPlace_54 (by decide) (ofz r2) (ofz (r32l rfl)) (fun c54 => ?_) (fun c54 => ?_)
  · have h := h.1 c54
    refine q_ic (v := Int32.ofInt (-1)) eX11_layPlace_68 rfl ?_
    exact q_subL rfl (h.1 hA hra1 hra2 hra3 hra4 hra5 hrt0 (r32l rfl))
  · have h := h.2 c54
    refine q_aload_n eX11_layPlace_57 rfl ?_
    refine q_iload_n eX11_layPlace_58 rfl ?_
    refine q_iload_n eX11_layPlace_59 rfl ?_
    refine q_iload_n eX11_layPlace_60 rfl ?_
    refine q_ic (v := Int32.ofInt 1) eX11_layPlace_61 rfl ?_
    have f4 := h.1
    have h := h.2
    refine q_V4 (ci := 11) (n := 0) eX11_layPlace_62 DX11_kidKind lX11_418 rfl (by decide) rfl rfl rfl rfl (p_X11_kidKind f4 hA hra1 hra2 hra3 (r32l rfl)) ?_
    rintro _ _ ⟨r3, rfl, rfl⟩
    refine q_goto (tgt := 69) eX11_layPlace_65 (by decide) ?_
    exact q_subL rfl (h.1 hA hra1 hra2 hra3 hra4 hra5 hrt0 r3)
set_option maxRecDepth 20000 in
theorem s_X11_layPlace {s : ST} {p : Int} {q : Int} {u : Int} {Q : ST → Prop} (h : RA s → R32 p → R32 q → R32 u → (P_X11_kindOf s q u ∧ (R32 (40 * p) ∧ (R32 ((40 * p) + u) ∧ (((0 : Int) ≤ ((40 * p) + u) ∧ ((40 * p) + u) < 240) ∧ (((F_X11_kidsOf s (s.1 146 ((40 * p) + u))) ≤ 0 → K_X11_layPlace_41 s p q u ((s.1 172 q + u) - s.1 170 q) ((40 * p) + u) (-1) Q) ∧ (¬ (F_X11_kidsOf s (s.1 146 ((40 * p) + u))) ≤ 0 → (P_X11_kidKind s p q u 0 ∧ K_X11_layPlace_41 s p q u ((s.1 172 q + u) - s.1 170 q) ((40 * p) + u) ((s.1 172 q + (s.1 152 ((3 * ((40 * p) + u)) + 0))) - s.1 170 q) Q)))))))) : C_X11_layPlace s p q u Q := by
  refine ⟨?_, trivial⟩
  intro hA hrp hrq hru
  have h := h hA hrp hrq hru
  refine q_enter (by decide) (Nat.le_of_ble_eq_true rfl) ?_
  refine q_aload_n eX11_layPlace_0 rfl ?_
  refine q_iload_n eX11_layPlace_1 rfl ?_
  refine q_iload_n eX11_layPlace_2 rfl ?_
  have f2 := h.1
  have h := h.2
  refine q_V2 (ci := 11) (n := 0) eX11_layPlace_3 DX11_kindOf lX11_415 rfl (by decide) rfl rfl rfl rfl (p_X11_kindOf f2 hA hrq hru) ?_
  rintro _ _ ⟨r1, rfl, rfl⟩
  refine q_istore eX11_layPlace_6 (Nat.le_of_ble_eq_true rfl) ?_
  refine q_bi (v := Int32.ofInt 40) eX11_layPlace_8 rfl ?_
  refine q_iload_n eX11_layPlace_10 rfl ?_
  refine z_imul eX11_layPlace_11 ?_
  have r3 := h.1
  have h := h.2
  refine q_iload_n eX11_layPlace_12 rfl ?_
  refine z_iadd eX11_layPlace_13 ?_
  have r4 := h.1
  have h := h.2
  refine q_istore eX11_layPlace_14 (Nat.le_of_ble_eq_true rfl) ?_
  refine q_aload_n eX11_layPlace_16 rfl ?_
  refine q_getR (c := 11) (n := 0) (k := 15) (a := 146) eX11_layPlace_17 rfl (by decide) (by decide) fX11_33 rfl rfl ?_
  refine q_iload eX11_layPlace_20 rfl ?_
  have f5 := h.1
  have h := h.2
  refine z_iald (n := 240) eX11_layPlace_22 rfl (ofz r4) f5 ?_
  refine q_topI (v := Int32.ofInt (s.1 146 ((40 * p) + u))) rfl ?_
  refine q_S1 eX11_layPlace_23 DX11_kidsOf lX11_365 rfl rfl rfl (p_X11_kidsOf hA (hA _ _)) ?_
  rintro _ _ ⟨r6, rfl, rfl⟩
  refine q_iz_le (tgt := 40) (a := (F_X11_kidsOf s (s.1 146 ((40 * p) + u)))) eX11_layPlace_26 (by decide) (ofz r6) (fun c26 => ?_) (fun c26 => ?_)
  · have h := h.1 c26
    refine q_ic (v := Int32.ofInt (-1)) eX11_layPlace_40 rfl ?_
    exact q_subL rfl (h.1 hA hrp hrq hru r1 r4 (r32l rfl))
  · have h := h.2 c26
    refine q_aload_n eX11_layPlace_29 rfl ?_
    refine q_iload_n eX11_layPlace_30 rfl ?_
    refine q_iload_n eX11_layPlace_31 rfl ?_
    refine q_iload_n eX11_layPlace_32 rfl ?_
    refine q_ic (v := Int32.ofInt 0) eX11_layPlace_33 rfl ?_
    have f8 := h.1
    have h := h.2
    refine q_V4 (ci := 11) (n := 0) eX11_layPlace_34 DX11_kidKind lX11_418 rfl (by decide) rfl rfl rfl rfl (p_X11_kidKind f8 hA hrp hrq hru (r32l rfl)) ?_
    rintro _ _ ⟨r7, rfl, rfl⟩
    refine q_goto (tgt := 41) eX11_layPlace_37 (by decide) ?_
    exact q_subL rfl (h.1 hA hrp hrq hru r1 r4 r7)
theorem eX11_layOut_0 : decode cX11_layOut 0 = .ok (.aload_n 0, 1) := by decide +kernel
theorem eX11_layOut_1 : decode cX11_layOut 1 = .ok (.iload_n 1, 1) := by decide +kernel
theorem eX11_layOut_2 : decode cX11_layOut 2 = .ok (.putfield 118, 3) := by decide +kernel
theorem eX11_layOut_5 : decode cX11_layOut 5 = .ok (.aload_n 0, 1) := by decide +kernel
theorem eX11_layOut_6 : decode cX11_layOut 6 = .ok (.iconst 0, 1) := by decide +kernel
theorem eX11_layOut_7 : decode cX11_layOut 7 = .ok (.putfield 386, 3) := by decide +kernel
theorem eX11_layOut_10 : decode cX11_layOut 10 = .ok (.aload_n 0, 1) := by decide +kernel
theorem eX11_layOut_11 : decode cX11_layOut 11 = .ok (.iconst 0, 1) := by decide +kernel
theorem eX11_layOut_12 : decode cX11_layOut 12 = .ok (.putfield 393, 3) := by decide +kernel
theorem eX11_layOut_15 : decode cX11_layOut 15 = .ok (.aload_n 0, 1) := by decide +kernel
theorem eX11_layOut_16 : decode cX11_layOut 16 = .ok (.iconst 0, 1) := by decide +kernel
theorem eX11_layOut_17 : decode cX11_layOut 17 = .ok (.putfield 396, 3) := by decide +kernel
theorem eX11_layOut_20 : decode cX11_layOut 20 = .ok (.aload_n 0, 1) := by decide +kernel
theorem eX11_layOut_21 : decode cX11_layOut 21 = .ok (.aload_n 0, 1) := by decide +kernel
theorem eX11_layOut_22 : decode cX11_layOut 22 = .ok (.iconst 0, 1) := by decide +kernel
theorem eX11_layOut_23 : decode cX11_layOut 23 = .ok (.iconst 0, 1) := by decide +kernel
theorem eX11_layOut_24 : decode cX11_layOut 24 = .ok (.iconst 0, 1) := by decide +kernel
theorem eX11_layOut_25 : decode cX11_layOut 25 = .ok (.invokevirtual 389, 3) := by decide +kernel
theorem eX11_layOut_28 : decode cX11_layOut 28 = .ok (.putfield 402, 3) := by decide +kernel
theorem eX11_layOut_31 : decode cX11_layOut 31 = .ok (.aload_n 0, 1) := by decide +kernel
theorem eX11_layOut_32 : decode cX11_layOut 32 = .ok (.aload_n 0, 1) := by decide +kernel
theorem eX11_layOut_33 : decode cX11_layOut 33 = .ok (.iconst 1, 1) := by decide +kernel
theorem eX11_layOut_34 : decode cX11_layOut 34 = .ok (.iconst 0, 1) := by decide +kernel
theorem eX11_layOut_35 : decode cX11_layOut 35 = .ok (.iconst 0, 1) := by decide +kernel
theorem eX11_layOut_36 : decode cX11_layOut 36 = .ok (.invokevirtual 389, 3) := by decide +kernel
theorem eX11_layOut_39 : decode cX11_layOut 39 = .ok (.putfield 405, 3) := by decide +kernel
theorem eX11_layOut_42 : decode cX11_layOut 42 = .ok (.iconst 0, 1) := by decide +kernel
theorem eX11_layOut_43 : decode cX11_layOut 43 = .ok (.istore_n 2, 1) := by decide +kernel
theorem eX11_layOut_44 : decode cX11_layOut 44 = .ok (.iload_n 2, 1) := by decide +kernel
theorem eX11_layOut_45 : decode cX11_layOut 45 = .ok (.aload_n 0, 1) := by decide +kernel
theorem eX11_layOut_46 : decode cX11_layOut 46 = .ok (.getfield 24, 3) := by decide +kernel
theorem eX11_layOut_49 : decode cX11_layOut 49 = .ok (.iload_n 1, 1) := by decide +kernel
theorem eX11_layOut_50 : decode cX11_layOut 50 = .ok (.iaload, 1) := by decide +kernel
theorem eX11_layOut_51 : decode cX11_layOut 51 = .ok (.if_icmp .ge 27, 3) := by decide +kernel
theorem eX11_layOut_54 : decode cX11_layOut 54 = .ok (.aload_n 0, 1) := by decide +kernel
theorem eX11_layOut_55 : decode cX11_layOut 55 = .ok (.iload_n 1, 1) := by decide +kernel
theorem eX11_layOut_56 : decode cX11_layOut 56 = .ok (.aload_n 0, 1) := by decide +kernel
theorem eX11_layOut_57 : decode cX11_layOut 57 = .ok (.getfield 30, 3) := by decide +kernel
theorem eX11_layOut_60 : decode cX11_layOut 60 = .ok (.bipush 8, 2) := by decide +kernel
theorem eX11_layOut_62 : decode cX11_layOut 62 = .ok (.iload_n 1, 1) := by decide +kernel
theorem eX11_layOut_63 : decode cX11_layOut 63 = .ok (.imul, 1) := by decide +kernel
theorem eX11_layOut_64 : decode cX11_layOut 64 = .ok (.iload_n 2, 1) := by decide +kernel
theorem eX11_layOut_65 : decode cX11_layOut 65 = .ok (.iadd, 1) := by decide +kernel
theorem eX11_layOut_66 : decode cX11_layOut 66 = .ok (.iaload, 1) := by decide +kernel
theorem eX11_layOut_67 : decode cX11_layOut 67 = .ok (.iconst (-1), 1) := by decide +kernel
theorem eX11_layOut_68 : decode cX11_layOut 68 = .ok (.invokevirtual 408, 3) := by decide +kernel
theorem eX11_layOut_71 : decode cX11_layOut 71 = .ok (.pop, 1) := by decide +kernel
theorem eX11_layOut_72 : decode cX11_layOut 72 = .ok (.iinc 2 1, 3) := by decide +kernel
theorem eX11_layOut_75 : decode cX11_layOut 75 = .ok (.goto (-31), 3) := by decide +kernel
theorem eX11_layOut_78 : decode cX11_layOut 78 = .ok (.iconst 0, 1) := by decide +kernel
theorem eX11_layOut_79 : decode cX11_layOut 79 = .ok (.istore_n 2, 1) := by decide +kernel
theorem eX11_layOut_80 : decode cX11_layOut 80 = .ok (.iload_n 2, 1) := by decide +kernel
theorem eX11_layOut_81 : decode cX11_layOut 81 = .ok (.aload_n 0, 1) := by decide +kernel
theorem eX11_layOut_82 : decode cX11_layOut 82 = .ok (.getfield 396, 3) := by decide +kernel
theorem eX11_layOut_85 : decode cX11_layOut 85 = .ok (.if_icmp .ge 49, 3) := by decide +kernel
theorem eX11_layOut_88 : decode cX11_layOut 88 = .ok (.aload_n 0, 1) := by decide +kernel
theorem eX11_layOut_89 : decode cX11_layOut 89 = .ok (.getfield 106, 3) := by decide +kernel
theorem eX11_layOut_92 : decode cX11_layOut 92 = .ok (.iload_n 2, 1) := by decide +kernel
theorem eX11_layOut_93 : decode cX11_layOut 93 = .ok (.iaload, 1) := by decide +kernel
theorem eX11_layOut_94 : decode cX11_layOut 94 = .ok (.istore_n 3, 1) := by decide +kernel
theorem eX11_layOut_95 : decode cX11_layOut 95 = .ok (.iload_n 3, 1) := by decide +kernel
theorem eX11_layOut_96 : decode cX11_layOut 96 = .ok (.aload_n 0, 1) := by decide +kernel
theorem eX11_layOut_97 : decode cX11_layOut 97 = .ok (.getfield 45, 3) := by decide +kernel
theorem eX11_layOut_100 : decode cX11_layOut 100 = .ok (.bipush 40, 2) := by decide +kernel
theorem eX11_layOut_102 : decode cX11_layOut 102 = .ok (.iload_n 1, 1) := by decide +kernel
theorem eX11_layOut_103 : decode cX11_layOut 103 = .ok (.imul, 1) := by decide +kernel
theorem eX11_layOut_104 : decode cX11_layOut 104 = .ok (.aload_n 0, 1) := by decide +kernel
theorem eX11_layOut_105 : decode cX11_layOut 105 = .ok (.getfield 106, 3) := by decide +kernel
theorem eX11_layOut_108 : decode cX11_layOut 108 = .ok (.iload_n 2, 1) := by decide +kernel
theorem eX11_layOut_109 : decode cX11_layOut 109 = .ok (.iaload, 1) := by decide +kernel
theorem eX11_layOut_110 : decode cX11_layOut 110 = .ok (.iadd, 1) := by decide +kernel
theorem eX11_layOut_111 : decode cX11_layOut 111 = .ok (.iaload, 1) := by decide +kernel
theorem eX11_layOut_112 : decode cX11_layOut 112 = .ok (.if_icmp .gt 16, 3) := by decide +kernel
theorem eX11_layOut_115 : decode cX11_layOut 115 = .ok (.aload_n 0, 1) := by decide +kernel
theorem eX11_layOut_116 : decode cX11_layOut 116 = .ok (.iload_n 1, 1) := by decide +kernel
theorem eX11_layOut_117 : decode cX11_layOut 117 = .ok (.iload_n 2, 1) := by decide +kernel
theorem eX11_layOut_118 : decode cX11_layOut 118 = .ok (.iload_n 3, 1) := by decide +kernel
theorem eX11_layOut_119 : decode cX11_layOut 119 = .ok (.invokevirtual 411, 3) := by decide +kernel
theorem eX11_layOut_122 : decode cX11_layOut 122 = .ok (.iinc 3 1, 3) := by decide +kernel
theorem eX11_layOut_125 : decode cX11_layOut 125 = .ok (.goto (-30), 3) := by decide +kernel
theorem eX11_layOut_128 : decode cX11_layOut 128 = .ok (.iinc 2 1, 3) := by decide +kernel
theorem eX11_layOut_131 : decode cX11_layOut 131 = .ok (.goto (-51), 3) := by decide +kernel
theorem eX11_layOut_134 : decode cX11_layOut 134 = .ok (.return_, 1) := by decide +kernel
def C_X11_layOut (s : ST) (p : Int) (Q : ST → Prop) : Prop := bx <| RA s → R32 p → q_met mX11_layOut (qs layM s) [.ref 139, .int (Int32.ofInt p)] (PV layM Q)
theorem C_X11_layOut.mono {s : ST} {p : Int} {Q Q' : ST → Prop} (h : C_X11_layOut s p Q) (hq : ∀ s, Q s → Q' s) : C_X11_layOut s p Q' := ⟨fun hA hrp => q_met.mono (h.1 hA hrp) (fun _ _ => PV.mono hq), trivial⟩
def K_X11_layOut_95 (s : ST) (a1 : Int) (a2 : Int) (a3 : Int) (Q : ST → Prop) : Prop := bx <| RA s → R32 a1 → R32 a2 → R32 a3 → q_K mX11_layOut (qs layM s) 0 0 95 [(0, .ref 139), (1, .int (Int32.ofInt a1)), (2, .int (Int32.ofInt a2)), (3, .int (Int32.ofInt a3))] [] (q_fin mX11_layOut (PV layM Q))
def K_X11_layOut_80 (s : ST) (a1 : Int) (a2 : Int) (Q : ST → Prop) : Prop := bx <| RA s → R32 a1 → R32 a2 → q_K mX11_layOut (qs layM s) 0 0 80 [(0, .ref 139), (1, .int (Int32.ofInt a1)), (2, .int (Int32.ofInt a2))] [] (q_fin mX11_layOut (PV layM Q))
def K_X11_layOut_44 (s : ST) (a1 : Int) (a2 : Int) (Q : ST → Prop) : Prop := bx <| RA s → R32 a1 → R32 a2 → q_K mX11_layOut (qs layM s) 0 0 44 [(0, .ref 139), (1, .int (Int32.ofInt a1)), (2, .int (Int32.ofInt a2))] [] (q_fin mX11_layOut (PV layM Q))
set_option maxRecDepth 20000 in
theorem s_X11_layOut_95 {s : ST} {a1 : Int} {a2 : Int} {a3 : Int} {Q : ST → Prop} (h : RA s → R32 a1 → R32 a2 → R32 a3 → (R32 (40 * a1) ∧ (((0 : Int) ≤ a2 ∧ a2 < 420) ∧ (R32 ((40 * a1) + s.1 170 a2) ∧ (((0 : Int) ≤ ((40 * a1) + s.1 170 a2) ∧ ((40 * a1) + s.1 170 a2) < 240) ∧ ((s.1 150 ((40 * a1) + s.1 170 a2) < a3 → (R32 (a2 + 1) ∧ K_X11_layOut_80 s a1 (a2 + 1) Q)) ∧ (¬ s.1 150 ((40 * a1) + s.1 170 a2) < a3 → (C_X11_layPlace s a1 a2 a3 (fun s6 => (R32 (a3 + 1) ∧ K_X11_layOut_95 s6 a1 a2 (a3 + 1) Q)))))))))) : K_X11_layOut_95 s a1 a2 a3 Q := by
  refine ⟨?_, trivial⟩
  intro hA hra1 hra2 hra3
  have h := h hA hra1 hra2 hra3
  refine q_iload_n eX11_layOut_95 rfl ?_
  refine q_aload_n eX11_layOut_96 rfl ?_
  refine q_getR (c := 11) (n := 0) (k := 19) (a := 150) eX11_layOut_97 rfl (by decide) (by decide) fX11_45 rfl rfl ?_
  refine q_bi (v := Int32.ofInt 40) eX11_layOut_100 rfl ?_
  refine q_iload_n eX11_layOut_102 rfl ?_
  refine z_imul eX11_layOut_103 ?_
  have r1 := h.1
  have h := h.2
  refine q_aload_n eX11_layOut_104 rfl ?_
  refine q_getR (c := 11) (n := 0) (k := 42) (a := 170) eX11_layOut_105 rfl (by decide) (by decide) fX11_106 rfl rfl ?_
  refine q_iload_n eX11_layOut_108 rfl ?_
  have f2 := h.1
  have h := h.2
  refine z_iald (n := 420) eX11_layOut_109 rfl (ofz hra2) f2 ?_
  refine q_topI (v := Int32.ofInt (s.1 170 a2)) rfl ?_
  refine z_iadd eX11_layOut_110 ?_
  have r3 := h.1
  have h := h.2
  have f4 := h.1
  have h := h.2
  refine z_iald (n := 240) eX11_layOut_111 rfl (ofz r3) f4 ?_
  refine q_topI (v := Int32.ofInt (s.1 150 ((40 * a1) + s.1 170 a2))) rfl ?_
  refine q_cz_gt (tgt := 128) (a := a3) (b := s.1 150 ((40 * a1) + s.1 170 a2)) eX11_layOut_112 (by decide) (ofz hra3) (ofz (hA _ _)) (fun c112 => ?_) (fun c112 => ?_)
  · have h := h.1 c112
    have r5 := h.1
    have h := h.2
    refine z_inc (m := 1) eX11_layOut_128 rfl (Nat.le_of_ble_eq_true rfl) rfl ?_
    refine q_goto (tgt := 80) eX11_layOut_131 (by decide) ?_
    exact q_subL rfl (h.1 hA hra1 r5)
  · have h := h.2 c112
    refine q_aload_n eX11_layOut_115 rfl ?_
    refine q_iload_n eX11_layOut_116 rfl ?_
    refine q_iload_n eX11_layOut_117 rfl ?_
    refine q_iload_n eX11_layOut_118 rfl ?_
    refine q_V3 (ci := 11) (n := 0) eX11_layOut_119 DX11_layPlace lX11_411 rfl (by decide) rfl rfl rfl rfl (h.1 hA hra1 hra2 hra3) ?_
    rintro _ _ ⟨s6, rfl, hA6, rfl, h⟩
    have r7 := h.1
    have h := h.2
    refine z_inc (m := 1) eX11_layOut_122 rfl (Nat.le_of_ble_eq_true rfl) rfl ?_
    refine q_goto (tgt := 95) eX11_layOut_125 (by decide) ?_
    exact q_subL rfl (h.1 hA6 hra1 hra2 r7)
set_option maxRecDepth 20000 in
theorem s_X11_layOut_80 {s : ST} {a1 : Int} {a2 : Int} {Q : ST → Prop} (h : RA s → R32 a1 → R32 a2 → ((s.1 139 48 ≤ a2 → Q s) ∧ (¬ s.1 139 48 ≤ a2 → (((0 : Int) ≤ a2 ∧ a2 < 420) ∧ K_X11_layOut_95 s a1 a2 (s.1 170 a2) Q)))) : K_X11_layOut_80 s a1 a2 Q := by
  refine ⟨?_, trivial⟩
  intro hA hra1 hra2
  have h := h hA hra1 hra2
  refine q_iload_n eX11_layOut_80 rfl ?_
  refine q_aload_n eX11_layOut_81 rfl ?_
  refine q_getf (c := 11) (n := 0) (k := 48) (v := .int (Int32.ofInt (s.1 139 48))) eX11_layOut_82 rfl (by decide) (by decide) fX11_396 rfl ?_
  refine q_cz_ge (tgt := 134) (a := a2) (b := s.1 139 48) eX11_layOut_85 (by decide) (ofz hra2) (ofz (hA _ _)) (fun c85 => ?_) (fun c85 => ?_)
  · have h := h.1 c85
    exact q_ret eX11_layOut_134 rfl ⟨_, rfl, hA, rfl, h⟩
  · have h := h.2 c85
    refine q_aload_n eX11_layOut_88 rfl ?_
    refine q_getR (c := 11) (n := 0) (k := 42) (a := 170) eX11_layOut_89 rfl (by decide) (by decide) fX11_106 rfl rfl ?_
    refine q_iload_n eX11_layOut_92 rfl ?_
    have f1 := h.1
    have h := h.2
    refine z_iald (n := 420) eX11_layOut_93 rfl (ofz hra2) f1 ?_
    refine q_topI (v := Int32.ofInt (s.1 170 a2)) rfl ?_
    refine q_istore_n eX11_layOut_94 (Nat.le_of_ble_eq_true rfl) ?_
    exact q_subL rfl (h.1 hA hra1 hra2 (hA _ _))
set_option maxRecDepth 20000 in
theorem s_X11_layOut_44 {s : ST} {a1 : Int} {a2 : Int} {Q : ST → Prop} (h : RA s → R32 a1 → R32 a2 → (((0 : Int) ≤ a1 ∧ a1 < 6) ∧ ((s.1 143 a1 ≤ a2 → K_X11_layOut_80 s a1 0 Q) ∧ (¬ s.1 143 a1 ≤ a2 → (R32 (8 * a1) ∧ (R32 ((8 * a1) + a2) ∧ (((0 : Int) ≤ ((8 * a1) + a2) ∧ ((8 * a1) + a2) < 48) ∧ (C_X11_beginsLay s a1 (s.1 145 ((8 * a1) + a2)) (-1) (fun s5 v5 => (R32 (a2 + 1) ∧ K_X11_layOut_44 s5 a1 (a2 + 1) Q)))))))))) : K_X11_layOut_44 s a1 a2 Q := by
  refine ⟨?_, trivial⟩
  intro hA hra1 hra2
  have h := h hA hra1 hra2
  refine q_iload_n eX11_layOut_44 rfl ?_
  refine q_aload_n eX11_layOut_45 rfl ?_
  refine q_getR (c := 11) (n := 0) (k := 12) (a := 143) eX11_layOut_46 rfl (by decide) (by decide) fX11_24 rfl rfl ?_
  refine q_iload_n eX11_layOut_49 rfl ?_
  have f1 := h.1
  have h := h.2
  refine z_iald (n := 6) eX11_layOut_50 rfl (ofz hra1) f1 ?_
  refine q_topI (v := Int32.ofInt (s.1 143 a1)) rfl ?_
  refine q_cz_ge (tgt := 78) (a := a2) (b := s.1 143 a1) eX11_layOut_51 (by decide) (ofz hra2) (ofz (hA _ _)) (fun c51 => ?_) (fun c51 => ?_)
  · have h := h.1 c51
    refine q_ic (v := Int32.ofInt 0) eX11_layOut_78 rfl ?_
    refine q_istore_n eX11_layOut_79 (Nat.le_of_ble_eq_true rfl) ?_
    exact q_subL rfl (h.1 hA hra1 (r32l rfl))
  · have h := h.2 c51
    refine q_aload_n eX11_layOut_54 rfl ?_
    refine q_iload_n eX11_layOut_55 rfl ?_
    refine q_aload_n eX11_layOut_56 rfl ?_
    refine q_getR (c := 11) (n := 0) (k := 14) (a := 145) eX11_layOut_57 rfl (by decide) (by decide) fX11_30 rfl rfl ?_
    refine q_bi (v := Int32.ofInt 8) eX11_layOut_60 rfl ?_
    refine q_iload_n eX11_layOut_62 rfl ?_
    refine z_imul eX11_layOut_63 ?_
    have r2 := h.1
    have h := h.2
    refine q_iload_n eX11_layOut_64 rfl ?_
    refine z_iadd eX11_layOut_65 ?_
    have r3 := h.1
    have h := h.2
    have f4 := h.1
    have h := h.2
    refine z_iald (n := 48) eX11_layOut_66 rfl (ofz r3) f4 ?_
    refine q_topI (v := Int32.ofInt (s.1 145 ((8 * a1) + a2))) rfl ?_
    refine q_ic (v := Int32.ofInt (-1)) eX11_layOut_67 rfl ?_
    refine q_V3 (ci := 11) (n := 0) eX11_layOut_68 DX11_beginsLay lX11_408 rfl (by decide) rfl rfl rfl rfl (h.1 hA hra1 (hA _ _) (r32l rfl)) ?_
    rintro _ _ ⟨s5, v5, rfl, hA5, r5, rfl, h⟩
    refine q_pop eX11_layOut_71 rfl ?_
    have r6 := h.1
    have h := h.2
    refine z_inc (m := 1) eX11_layOut_72 rfl (Nat.le_of_ble_eq_true rfl) rfl ?_
    refine q_goto (tgt := 44) eX11_layOut_75 (by decide) ?_
    exact q_subL rfl (h.1 hA5 hra1 r6)
set_option maxRecDepth 20000 in
theorem s_X11_layOut {s : ST} {p : Int} {Q : ST → Prop} (h : RA s → R32 p → (C_X11_term (ui (ui (ui (ui s 139 49 p) 139 46 0) 139 47 0) 139 48 0) 0 0 0 (fun s1 v1 => (C_X11_term (ui s1 139 50 v1) 1 0 0 (fun s2 v2 => K_X11_layOut_44 (ui s2 139 51 v2) p 0 Q))))) : C_X11_layOut s p Q := by
  refine ⟨?_, trivial⟩
  intro hA hrp
  have h := h hA hrp
  refine q_enter (by decide) (Nat.le_of_ble_eq_true rfl) ?_
  refine q_aload_n eX11_layOut_0 rfl ?_
  refine q_iload_n eX11_layOut_1 rfl ?_
  refine z_putI (c := 11) (n := 0) (k := 49) (kz := 49) eX11_layOut_2 rfl (by decide) (by decide) fX11_118 rfl rfl rfl ?_
  refine q_aload_n eX11_layOut_5 rfl ?_
  refine q_ic (v := Int32.ofInt 0) eX11_layOut_6 rfl ?_
  refine z_putI (c := 11) (n := 0) (k := 46) (kz := 46) eX11_layOut_7 rfl (by decide) (by decide) fX11_386 rfl rfl rfl ?_
  refine q_aload_n eX11_layOut_10 rfl ?_
  refine q_ic (v := Int32.ofInt 0) eX11_layOut_11 rfl ?_
  refine z_putI (c := 11) (n := 0) (k := 47) (kz := 47) eX11_layOut_12 rfl (by decide) (by decide) fX11_393 rfl rfl rfl ?_
  refine q_aload_n eX11_layOut_15 rfl ?_
  refine q_ic (v := Int32.ofInt 0) eX11_layOut_16 rfl ?_
  refine z_putI (c := 11) (n := 0) (k := 48) (kz := 48) eX11_layOut_17 rfl (by decide) (by decide) fX11_396 rfl rfl rfl ?_
  refine q_aload_n eX11_layOut_20 rfl ?_
  refine q_aload_n eX11_layOut_21 rfl ?_
  refine q_ic (v := Int32.ofInt 0) eX11_layOut_22 rfl ?_
  refine q_ic (v := Int32.ofInt 0) eX11_layOut_23 rfl ?_
  refine q_ic (v := Int32.ofInt 0) eX11_layOut_24 rfl ?_
  refine q_V3 (ci := 11) (n := 0) eX11_layOut_25 DX11_term lX11_389 rfl (by decide) rfl rfl rfl rfl (h.1 (ra_ui (ra_ui (ra_ui (ra_ui hA hrp) (r32l rfl)) (r32l rfl)) (r32l rfl)) (r32l rfl) (r32l rfl) (r32l rfl)) ?_
  rintro _ _ ⟨s1, v1, rfl, hA1, r1, rfl, h⟩
  refine z_putI (c := 11) (n := 0) (k := 50) (kz := 50) eX11_layOut_28 rfl (by decide) (by decide) fX11_402 rfl rfl rfl ?_
  refine q_aload_n eX11_layOut_31 rfl ?_
  refine q_aload_n eX11_layOut_32 rfl ?_
  refine q_ic (v := Int32.ofInt 1) eX11_layOut_33 rfl ?_
  refine q_ic (v := Int32.ofInt 0) eX11_layOut_34 rfl ?_
  refine q_ic (v := Int32.ofInt 0) eX11_layOut_35 rfl ?_
  refine q_V3 (ci := 11) (n := 0) eX11_layOut_36 DX11_term lX11_389 rfl (by decide) rfl rfl rfl rfl (h.1 (ra_ui hA1 r1) (r32l rfl) (r32l rfl) (r32l rfl)) ?_
  rintro _ _ ⟨s2, v2, rfl, hA2, r2, rfl, h⟩
  refine z_putI (c := 11) (n := 0) (k := 51) (kz := 51) eX11_layOut_39 rfl (by decide) (by decide) fX11_405 rfl rfl rfl ?_
  refine q_ic (v := Int32.ofInt 0) eX11_layOut_42 rfl ?_
  refine q_istore_n eX11_layOut_43 (Nat.le_of_ble_eq_true rfl) ?_
  exact q_subL rfl (h.1 (ra_ui hA2 r2) hrp (r32l rfl))
