/-! STEP ROWS of the class. By program (wip/wp/gen_parts.py). -/
theorem eX6_stepIf_0 : decode cX6_stepIf 0 = .ok (.iload_n 3, 1) := by decide +kernel
theorem eX6_stepIf_1 : decode cX6_stepIf 1 = .ok (.ifCond .ne 20, 3) := by decide +kernel
theorem eX6_stepIf_4 : decode cX6_stepIf 4 = .ok (.aload_n 0, 1) := by decide +kernel
theorem eX6_stepIf_5 : decode cX6_stepIf 5 = .ok (.aload_n 0, 1) := by decide +kernel
theorem eX6_stepIf_6 : decode cX6_stepIf 6 = .ok (.getfield 37, 3) := by decide +kernel
theorem eX6_stepIf_9 : decode cX6_stepIf 9 = .ok (.iload_n 1, 1) := by decide +kernel
theorem eX6_stepIf_10 : decode cX6_stepIf 10 = .ok (.iconst 0, 1) := by decide +kernel
theorem eX6_stepIf_11 : decode cX6_stepIf 11 = .ok (.invokevirtual 94, 3) := by decide +kernel
theorem eX6_stepIf_14 : decode cX6_stepIf 14 = .ok (.iload_n 2, 1) := by decide +kernel
theorem eX6_stepIf_15 : decode cX6_stepIf 15 = .ok (.invokevirtual 62, 3) := by decide +kernel
theorem eX6_stepIf_18 : decode cX6_stepIf 18 = .ok (.goto 70, 3) := by decide +kernel
theorem eX6_stepIf_21 : decode cX6_stepIf 21 = .ok (.iload_n 3, 1) := by decide +kernel
theorem eX6_stepIf_22 : decode cX6_stepIf 22 = .ok (.iconst 1, 1) := by decide +kernel
theorem eX6_stepIf_23 : decode cX6_stepIf 23 = .ok (.if_icmp .le 14, 3) := by decide +kernel
theorem eX6_stepIf_26 : decode cX6_stepIf 26 = .ok (.aload_n 0, 1) := by decide +kernel
theorem eX6_stepIf_27 : decode cX6_stepIf 27 = .ok (.aload_n 0, 1) := by decide +kernel
theorem eX6_stepIf_28 : decode cX6_stepIf 28 = .ok (.getfield 50, 3) := by decide +kernel
theorem eX6_stepIf_31 : decode cX6_stepIf 31 = .ok (.invokevirtual 112, 3) := by decide +kernel
theorem eX6_stepIf_34 : decode cX6_stepIf 34 = .ok (.goto 54, 3) := by decide +kernel
theorem eX6_stepIf_37 : decode cX6_stepIf 37 = .ok (.aload_n 0, 1) := by decide +kernel
theorem eX6_stepIf_38 : decode cX6_stepIf 38 = .ok (.aload_n 0, 1) := by decide +kernel
theorem eX6_stepIf_39 : decode cX6_stepIf 39 = .ok (.getfield 50, 3) := by decide +kernel
theorem eX6_stepIf_42 : decode cX6_stepIf 42 = .ok (.invokevirtual 71, 3) := by decide +kernel
theorem eX6_stepIf_45 : decode cX6_stepIf 45 = .ok (.iconst 1, 1) := by decide +kernel
theorem eX6_stepIf_46 : decode cX6_stepIf 46 = .ok (.if_icmp .eq 12, 3) := by decide +kernel
theorem eX6_stepIf_49 : decode cX6_stepIf 49 = .ok (.aload_n 0, 1) := by decide +kernel
theorem eX6_stepIf_50 : decode cX6_stepIf 50 = .ok (.bipush (-2), 2) := by decide +kernel
theorem eX6_stepIf_52 : decode cX6_stepIf 52 = .ok (.putfield 47, 3) := by decide +kernel
theorem eX6_stepIf_55 : decode cX6_stepIf 55 = .ok (.goto 33, 3) := by decide +kernel
theorem eX6_stepIf_58 : decode cX6_stepIf 58 = .ok (.aload_n 0, 1) := by decide +kernel
theorem eX6_stepIf_59 : decode cX6_stepIf 59 = .ok (.aload_n 0, 1) := by decide +kernel
theorem eX6_stepIf_60 : decode cX6_stepIf 60 = .ok (.getfield 37, 3) := by decide +kernel
theorem eX6_stepIf_63 : decode cX6_stepIf 63 = .ok (.iload_n 1, 1) := by decide +kernel
theorem eX6_stepIf_64 : decode cX6_stepIf 64 = .ok (.aload_n 0, 1) := by decide +kernel
theorem eX6_stepIf_65 : decode cX6_stepIf 65 = .ok (.aload_n 0, 1) := by decide +kernel
theorem eX6_stepIf_66 : decode cX6_stepIf 66 = .ok (.getfield 50, 3) := by decide +kernel
theorem eX6_stepIf_69 : decode cX6_stepIf 69 = .ok (.invokevirtual 130, 3) := by decide +kernel
theorem eX6_stepIf_72 : decode cX6_stepIf 72 = .ok (.iconst 1, 1) := by decide +kernel
theorem eX6_stepIf_73 : decode cX6_stepIf 73 = .ok (.if_icmp .ne 7, 3) := by decide +kernel
theorem eX6_stepIf_76 : decode cX6_stepIf 76 = .ok (.iconst 1, 1) := by decide +kernel
theorem eX6_stepIf_77 : decode cX6_stepIf 77 = .ok (.goto 4, 3) := by decide +kernel
theorem eX6_stepIf_80 : decode cX6_stepIf 80 = .ok (.iconst 2, 1) := by decide +kernel
theorem eX6_stepIf_81 : decode cX6_stepIf 81 = .ok (.invokevirtual 94, 3) := by decide +kernel
theorem eX6_stepIf_84 : decode cX6_stepIf 84 = .ok (.iload_n 2, 1) := by decide +kernel
theorem eX6_stepIf_85 : decode cX6_stepIf 85 = .ok (.invokevirtual 62, 3) := by decide +kernel
theorem eX6_stepIf_88 : decode cX6_stepIf 88 = .ok (.return_, 1) := by decide +kernel
def C_X6_stepIf (s : ST) (p : Int) (q : Int) (u : Int) (Q : ST → Prop) : Prop := bx <| RA s → R32 p → R32 q → R32 u → q_met mX6_stepIf (qs layX s) [.ref 80, .int (Int32.ofInt p), .int (Int32.ofInt q), .int (Int32.ofInt u)] (PV layX Q)
theorem C_X6_stepIf.mono {s : ST} {p : Int} {q : Int} {u : Int} {Q Q' : ST → Prop} (h : C_X6_stepIf s p q u Q) (hq : ∀ s, Q s → Q' s) : C_X6_stepIf s p q u Q' := ⟨fun hA hrp hrq hru => q_met.mono (h.1 hA hrp hrq hru) (fun _ _ => PV.mono hq), trivial⟩
def K_X6_stepIf_81 (s : ST) (a2 : Int) (t2 : Int) (t3 : Int) (Q : ST → Prop) : Prop := bx <| RA s → R32 a2 → R32 t2 → R32 t3 → q_K mX6_stepIf (qs layX s) 0 0 81 [(2, .int (Int32.ofInt a2))] [.int (Int32.ofInt t3), .int (Int32.ofInt t2), .ref 2, .ref 80] (q_fin mX6_stepIf (PV layX Q))
set_option maxRecDepth 20000 in
theorem s_X6_stepIf_81 {s : ST} {a2 : Int} {t2 : Int} {t3 : Int} {Q : ST → Prop} (h : RA s → R32 a2 → R32 t2 → R32 t3 → (P_X9_kidOf 2 s t2 t3 ∧ (C_X6_enter s (F_X9_kidOf 2 s t2 t3) a2 (fun s3 => Q s3)))) : K_X6_stepIf_81 s a2 t2 t3 Q := by
  refine ⟨?_, trivial⟩
  intro hA hra2 hrt2 hrt3
  have h := h hA hra2 hrt2 hrt3
  have f2 := h.1
  have h := h.2
  refine q_V2 (ci := 9) (n := 0) eX6_stepIf_81 DX9_kidOf lX6_94 rfl (by decide) rfl rfl rfl rfl (p_X9_kidOf f2 (by decide) hA hrt2 hrt3) ?_
  rintro _ _ ⟨r1, rfl, rfl⟩
  refine q_iload_n eX6_stepIf_84 rfl ?_
  refine q_V2 (ci := 6) (n := 0) eX6_stepIf_85 DX6_enter lX6_62 rfl (by decide) rfl rfl rfl rfl (h.1 hA r1 hra2) ?_
  rintro _ _ ⟨s3, rfl, hA3, rfl, h⟩
  exact q_ret eX6_stepIf_88 rfl ⟨_, rfl, hA3, rfl, h⟩
set_option maxRecDepth 20000 in
theorem s_X6_stepIf {s : ST} {p : Int} {q : Int} {u : Int} {Q : ST → Prop} (h : RA s → R32 p → R32 q → R32 u → ((¬ u = 0 → ((u ≤ 1 → (P_X6_headOf s (s.1 80 13) ∧ (((F_X6_headOf s (s.1 80 13)) = 1 → (P_X6_oneOf s (s.1 80 13) ∧ ((¬ (F_X6_oneOf s (s.1 80 13)) = 1 → K_X6_stepIf_81 s q p 2 Q) ∧ ((F_X6_oneOf s (s.1 80 13)) = 1 → K_X6_stepIf_81 s q p 1 Q)))) ∧ (¬ (F_X6_headOf s (s.1 80 13)) = 1 → Q (ui s 80 14 (-2)))))) ∧ (¬ u ≤ 1 → (C_X6_leave s (s.1 80 13) (fun s5 => Q s5))))) ∧ (u = 0 → (P_X9_kidOf 2 s p 0 ∧ (C_X6_enter s (F_X9_kidOf 2 s p 0) q (fun s8 => Q s8)))))) : C_X6_stepIf s p q u Q := by
  refine ⟨?_, trivial⟩
  intro hA hrp hrq hru
  have h := h hA hrp hrq hru
  refine q_enter (by decide) (Nat.le_of_ble_eq_true rfl) ?_
  refine q_iload_n eX6_stepIf_0 rfl ?_
  refine q_iz_ne (tgt := 21) (a := u) eX6_stepIf_1 (by decide) (ofz hru) (fun c1 => ?_) (fun c1 => ?_)
  · have h := h.1 c1
    refine q_iload_n eX6_stepIf_21 rfl ?_
    refine q_ic (v := Int32.ofInt 1) eX6_stepIf_22 rfl ?_
    refine q_cz_le (tgt := 37) (a := u) (b := 1) eX6_stepIf_23 (by decide) (ofz hru) (ofz (r32l rfl)) (fun c23 => ?_) (fun c23 => ?_)
    · have h := h.1 c23
      refine q_aload_n eX6_stepIf_37 rfl ?_
      refine q_aload_n eX6_stepIf_38 rfl ?_
      refine q_getf (c := 6) (n := 0) (k := 13) (v := .int (Int32.ofInt (s.1 80 13))) eX6_stepIf_39 rfl (by decide) (by decide) fX6_50 rfl ?_
      have f2 := h.1
      have h := h.2
      refine q_V1 (ci := 6) (n := 0) eX6_stepIf_42 DX6_headOf lX6_71 rfl (by decide) rfl rfl rfl rfl (p_X6_headOf f2 hA (hA _ _)) ?_
      rintro _ _ ⟨r1, rfl, rfl⟩
      refine q_ic (v := Int32.ofInt 1) eX6_stepIf_45 rfl ?_
      refine q_cz_eq (tgt := 58) (a := (F_X6_headOf s (s.1 80 13))) (b := 1) eX6_stepIf_46 (by decide) (ofz r1) (ofz (r32l rfl)) (fun c46 => ?_) (fun c46 => ?_)
      · have h := h.1 c46
        refine q_aload_n eX6_stepIf_58 rfl ?_
        refine q_aload_n eX6_stepIf_59 rfl ?_
        refine q_getR (c := 6) (n := 0) (k := 3) (a := 2) eX6_stepIf_60 rfl (by decide) (by decide) fX6_37 rfl rfl ?_
        refine q_iload_n eX6_stepIf_63 rfl ?_
        refine q_aload_n eX6_stepIf_64 rfl ?_
        refine q_aload_n eX6_stepIf_65 rfl ?_
        refine q_getf (c := 6) (n := 0) (k := 13) (v := .int (Int32.ofInt (s.1 80 13))) eX6_stepIf_66 rfl (by decide) (by decide) fX6_50 rfl ?_
        have f4 := h.1
        have h := h.2
        refine q_V1 (ci := 6) (n := 0) eX6_stepIf_69 DX6_oneOf lX6_130 rfl (by decide) rfl rfl rfl rfl (p_X6_oneOf f4 hA (hA _ _)) ?_
        rintro _ _ ⟨r3, rfl, rfl⟩
        refine q_ic (v := Int32.ofInt 1) eX6_stepIf_72 rfl ?_
        refine q_cz_ne (tgt := 80) (a := (F_X6_oneOf s (s.1 80 13))) (b := 1) eX6_stepIf_73 (by decide) (ofz r3) (ofz (r32l rfl)) (fun c73 => ?_) (fun c73 => ?_)
        · have h := h.1 c73
          refine q_ic (v := Int32.ofInt 2) eX6_stepIf_80 rfl ?_
          exact q_subL rfl (h.1 hA hrq hrp (r32l rfl))
        · have h := h.2 c73
          refine q_ic (v := Int32.ofInt 1) eX6_stepIf_76 rfl ?_
          refine q_goto (tgt := 81) eX6_stepIf_77 (by decide) ?_
          exact q_subL rfl (h.1 hA hrq hrp (r32l rfl))
      · have h := h.2 c46
        refine q_aload_n eX6_stepIf_49 rfl ?_
        refine q_bi (v := Int32.ofInt (-2)) eX6_stepIf_50 rfl ?_
        refine z_putI (c := 6) (n := 0) (k := 14) (kz := 14) eX6_stepIf_52 rfl (by decide) (by decide) fX6_47 rfl rfl rfl ?_
        refine q_goto (tgt := 88) eX6_stepIf_55 (by decide) ?_
        exact q_ret eX6_stepIf_88 rfl ⟨_, rfl, (ra_ui hA (r32l rfl)), rfl, h⟩
    · have h := h.2 c23
      refine q_aload_n eX6_stepIf_26 rfl ?_
      refine q_aload_n eX6_stepIf_27 rfl ?_
      refine q_getf (c := 6) (n := 0) (k := 13) (v := .int (Int32.ofInt (s.1 80 13))) eX6_stepIf_28 rfl (by decide) (by decide) fX6_50 rfl ?_
      refine q_V1 (ci := 6) (n := 0) eX6_stepIf_31 DX6_leave lX6_112 rfl (by decide) rfl rfl rfl rfl (h.1 hA (hA _ _)) ?_
      rintro _ _ ⟨s5, rfl, hA5, rfl, h⟩
      refine q_goto (tgt := 88) eX6_stepIf_34 (by decide) ?_
      exact q_ret eX6_stepIf_88 rfl ⟨_, rfl, hA5, rfl, h⟩
  · have h := h.2 c1
    refine q_aload_n eX6_stepIf_4 rfl ?_
    refine q_aload_n eX6_stepIf_5 rfl ?_
    refine q_getR (c := 6) (n := 0) (k := 3) (a := 2) eX6_stepIf_6 rfl (by decide) (by decide) fX6_37 rfl rfl ?_
    refine q_iload_n eX6_stepIf_9 rfl ?_
    refine q_ic (v := Int32.ofInt 0) eX6_stepIf_10 rfl ?_
    have f7 := h.1
    have h := h.2
    refine q_V2 (ci := 9) (n := 0) eX6_stepIf_11 DX9_kidOf lX6_94 rfl (by decide) rfl rfl rfl rfl (p_X9_kidOf f7 (by decide) hA hrp (r32l rfl)) ?_
    rintro _ _ ⟨r6, rfl, rfl⟩
    refine q_iload_n eX6_stepIf_14 rfl ?_
    refine q_V2 (ci := 6) (n := 0) eX6_stepIf_15 DX6_enter lX6_62 rfl (by decide) rfl rfl rfl rfl (h.1 hA r6 hrq) ?_
    rintro _ _ ⟨s8, rfl, hA8, rfl, h⟩
    refine q_goto (tgt := 88) eX6_stepIf_18 (by decide) ?_
    exact q_ret eX6_stepIf_88 rfl ⟨_, rfl, hA8, rfl, h⟩
theorem eX6_enterPart_0 : decode cX6_enterPart 0 = .ok (.iload 4, 2) := by decide +kernel
theorem eX6_enterPart_2 : decode cX6_enterPart 2 = .ok (.iconst 1, 1) := by decide +kernel
theorem eX6_enterPart_3 : decode cX6_enterPart 3 = .ok (.if_icmp .ne 13, 3) := by decide +kernel
theorem eX6_enterPart_6 : decode cX6_enterPart 6 = .ok (.aload_n 0, 1) := by decide +kernel
theorem eX6_enterPart_7 : decode cX6_enterPart 7 = .ok (.getfield 34, 3) := by decide +kernel
theorem eX6_enterPart_10 : decode cX6_enterPart 10 = .ok (.iload_n 1, 1) := by decide +kernel
theorem eX6_enterPart_11 : decode cX6_enterPart 11 = .ok (.aload_n 0, 1) := by decide +kernel
theorem eX6_enterPart_12 : decode cX6_enterPart 12 = .ok (.getfield 50, 3) := by decide +kernel
theorem eX6_enterPart_15 : decode cX6_enterPart 15 = .ok (.iastore, 1) := by decide +kernel
theorem eX6_enterPart_16 : decode cX6_enterPart 16 = .ok (.aload_n 0, 1) := by decide +kernel
theorem eX6_enterPart_17 : decode cX6_enterPart 17 = .ok (.aload_n 0, 1) := by decide +kernel
theorem eX6_enterPart_18 : decode cX6_enterPart 18 = .ok (.getfield 37, 3) := by decide +kernel
theorem eX6_enterPart_21 : decode cX6_enterPart 21 = .ok (.iload_n 2, 1) := by decide +kernel
theorem eX6_enterPart_22 : decode cX6_enterPart 22 = .ok (.iload 4, 2) := by decide +kernel
theorem eX6_enterPart_24 : decode cX6_enterPart 24 = .ok (.invokevirtual 94, 3) := by decide +kernel
theorem eX6_enterPart_27 : decode cX6_enterPart 27 = .ok (.iload_n 3, 1) := by decide +kernel
theorem eX6_enterPart_28 : decode cX6_enterPart 28 = .ok (.invokevirtual 62, 3) := by decide +kernel
theorem eX6_enterPart_31 : decode cX6_enterPart 31 = .ok (.return_, 1) := by decide +kernel
def C_X6_enterPart (s : ST) (p : Int) (q : Int) (u : Int) (w : Int) (Q : ST → Prop) : Prop := bx <| RA s → R32 p → R32 q → R32 u → R32 w → q_met mX6_enterPart (qs layX s) [.ref 80, .int (Int32.ofInt p), .int (Int32.ofInt q), .int (Int32.ofInt u), .int (Int32.ofInt w)] (PV layX Q)
theorem C_X6_enterPart.mono {s : ST} {p : Int} {q : Int} {u : Int} {w : Int} {Q Q' : ST → Prop} (h : C_X6_enterPart s p q u w Q) (hq : ∀ s, Q s → Q' s) : C_X6_enterPart s p q u w Q' := ⟨fun hA hrp hrq hru hrw => q_met.mono (h.1 hA hrp hrq hru hrw) (fun _ _ => PV.mono hq), trivial⟩
def K_X6_enterPart_16 (s : ST) (a2 : Int) (a3 : Int) (a4 : Int) (Q : ST → Prop) : Prop := bx <| RA s → R32 a2 → R32 a3 → R32 a4 → q_K mX6_enterPart (qs layX s) 0 0 16 [(0, .ref 80), (2, .int (Int32.ofInt a2)), (3, .int (Int32.ofInt a3)), (4, .int (Int32.ofInt a4))] [] (q_fin mX6_enterPart (PV layX Q))
set_option maxRecDepth 20000 in
theorem s_X6_enterPart_16 {s : ST} {a2 : Int} {a3 : Int} {a4 : Int} {Q : ST → Prop} (h : RA s → R32 a2 → R32 a3 → R32 a4 → (P_X9_kidOf 2 s a2 a4 ∧ (C_X6_enter s (F_X9_kidOf 2 s a2 a4) a3 (fun s3 => Q s3)))) : K_X6_enterPart_16 s a2 a3 a4 Q := by
  refine ⟨?_, trivial⟩
  intro hA hra2 hra3 hra4
  have h := h hA hra2 hra3 hra4
  refine q_aload_n eX6_enterPart_16 rfl ?_
  refine q_aload_n eX6_enterPart_17 rfl ?_
  refine q_getR (c := 6) (n := 0) (k := 3) (a := 2) eX6_enterPart_18 rfl (by decide) (by decide) fX6_37 rfl rfl ?_
  refine q_iload_n eX6_enterPart_21 rfl ?_
  refine q_iload eX6_enterPart_22 rfl ?_
  have f2 := h.1
  have h := h.2
  refine q_V2 (ci := 9) (n := 0) eX6_enterPart_24 DX9_kidOf lX6_94 rfl (by decide) rfl rfl rfl rfl (p_X9_kidOf f2 (by decide) hA hra2 hra4) ?_
  rintro _ _ ⟨r1, rfl, rfl⟩
  refine q_iload_n eX6_enterPart_27 rfl ?_
  refine q_V2 (ci := 6) (n := 0) eX6_enterPart_28 DX6_enter lX6_62 rfl (by decide) rfl rfl rfl rfl (h.1 hA r1 hra3) ?_
  rintro _ _ ⟨s3, rfl, hA3, rfl, h⟩
  exact q_ret eX6_enterPart_31 rfl ⟨_, rfl, hA3, rfl, h⟩
set_option maxRecDepth 20000 in
theorem s_X6_enterPart {s : ST} {p : Int} {q : Int} {u : Int} {w : Int} {Q : ST → Prop} (h : RA s → R32 p → R32 q → R32 u → R32 w → ((¬ w = 1 → K_X6_enterPart_16 s q u w Q) ∧ (w = 1 → (((0 : Int) ≤ p ∧ p < 151) ∧ K_X6_enterPart_16 (ui s 87 p (s.1 80 13)) q u w Q)))) : C_X6_enterPart s p q u w Q := by
  refine ⟨?_, trivial⟩
  intro hA hrp hrq hru hrw
  have h := h hA hrp hrq hru hrw
  refine q_enter (by decide) (Nat.le_of_ble_eq_true rfl) ?_
  refine q_iload eX6_enterPart_0 rfl ?_
  refine q_ic (v := Int32.ofInt 1) eX6_enterPart_2 rfl ?_
  refine q_cz_ne (tgt := 16) (a := w) (b := 1) eX6_enterPart_3 (by decide) (ofz hrw) (ofz (r32l rfl)) (fun c3 => ?_) (fun c3 => ?_)
  · have h := h.1 c3
    exact q_subL rfl (h.1 hA hrq hru hrw)
  · have h := h.2 c3
    refine q_aload_n eX6_enterPart_6 rfl ?_
    refine q_getR (c := 6) (n := 0) (k := 11) (a := 87) eX6_enterPart_7 rfl (by decide) (by decide) fX6_34 rfl rfl ?_
    refine q_iload_n eX6_enterPart_10 rfl ?_
    refine q_aload_n eX6_enterPart_11 rfl ?_
    refine q_getf (c := 6) (n := 0) (k := 13) (v := .int (Int32.ofInt (s.1 80 13))) eX6_enterPart_12 rfl (by decide) (by decide) fX6_50 rfl ?_
    have f1 := h.1
    have h := h.2
    refine z_iast (n := 151) eX6_enterPart_15 rfl (ofz hrp) f1  ?_
    exact q_subL rfl (h.1 (ra_ui hA (hA _ _)) hrq hru hrw)
theorem eX6_cell_0 : decode cX6_cell 0 = .ok (.aload_n 0, 1) := by decide +kernel
theorem eX6_cell_1 : decode cX6_cell 1 = .ok (.getfield 41, 3) := by decide +kernel
theorem eX6_cell_4 : decode cX6_cell 4 = .ok (.ifCond .lt 13, 3) := by decide +kernel
theorem eX6_cell_7 : decode cX6_cell 7 = .ok (.aload_n 0, 1) := by decide +kernel
theorem eX6_cell_8 : decode cX6_cell 8 = .ok (.getfield 41, 3) := by decide +kernel
theorem eX6_cell_11 : decode cX6_cell 11 = .ok (.sipush 4000, 3) := by decide +kernel
theorem eX6_cell_14 : decode cX6_cell 14 = .ok (.if_icmp .lt 5, 3) := by decide +kernel
theorem eX6_cell_17 : decode cX6_cell 17 = .ok (.iconst (-1), 1) := by decide +kernel
theorem eX6_cell_18 : decode cX6_cell 18 = .ok (.ireturn, 1) := by decide +kernel
theorem eX6_cell_19 : decode cX6_cell 19 = .ok (.aload_n 0, 1) := by decide +kernel
theorem eX6_cell_20 : decode cX6_cell 20 = .ok (.getfield 41, 3) := by decide +kernel
theorem eX6_cell_23 : decode cX6_cell 23 = .ok (.istore 4, 2) := by decide +kernel
theorem eX6_cell_25 : decode cX6_cell 25 = .ok (.aload_n 0, 1) := by decide +kernel
theorem eX6_cell_26 : decode cX6_cell 26 = .ok (.dup, 1) := by decide +kernel
theorem eX6_cell_27 : decode cX6_cell 27 = .ok (.getfield 41, 3) := by decide +kernel
theorem eX6_cell_30 : decode cX6_cell 30 = .ok (.iconst 1, 1) := by decide +kernel
theorem eX6_cell_31 : decode cX6_cell 31 = .ok (.iadd, 1) := by decide +kernel
theorem eX6_cell_32 : decode cX6_cell 32 = .ok (.putfield 41, 3) := by decide +kernel
theorem eX6_cell_35 : decode cX6_cell 35 = .ok (.aload_n 0, 1) := by decide +kernel
theorem eX6_cell_36 : decode cX6_cell 36 = .ok (.getfield 15, 3) := by decide +kernel
theorem eX6_cell_39 : decode cX6_cell 39 = .ok (.iload 4, 2) := by decide +kernel
theorem eX6_cell_41 : decode cX6_cell 41 = .ok (.iload_n 1, 1) := by decide +kernel
theorem eX6_cell_42 : decode cX6_cell 42 = .ok (.iastore, 1) := by decide +kernel
theorem eX6_cell_43 : decode cX6_cell 43 = .ok (.aload_n 0, 1) := by decide +kernel
theorem eX6_cell_44 : decode cX6_cell 44 = .ok (.getfield 19, 3) := by decide +kernel
theorem eX6_cell_47 : decode cX6_cell 47 = .ok (.iload 4, 2) := by decide +kernel
theorem eX6_cell_49 : decode cX6_cell 49 = .ok (.iload_n 2, 1) := by decide +kernel
theorem eX6_cell_50 : decode cX6_cell 50 = .ok (.iastore, 1) := by decide +kernel
theorem eX6_cell_51 : decode cX6_cell 51 = .ok (.aload_n 0, 1) := by decide +kernel
theorem eX6_cell_52 : decode cX6_cell 52 = .ok (.getfield 22, 3) := by decide +kernel
theorem eX6_cell_55 : decode cX6_cell 55 = .ok (.iload 4, 2) := by decide +kernel
theorem eX6_cell_57 : decode cX6_cell 57 = .ok (.iload_n 3, 1) := by decide +kernel
theorem eX6_cell_58 : decode cX6_cell 58 = .ok (.iastore, 1) := by decide +kernel
theorem eX6_cell_59 : decode cX6_cell 59 = .ok (.iload 4, 2) := by decide +kernel
theorem eX6_cell_61 : decode cX6_cell 61 = .ok (.ireturn, 1) := by decide +kernel
def C_X6_cell (s : ST) (p : Int) (q : Int) (u : Int) (Q : ST → Int → Prop) : Prop := bx <| RA s → R32 p → R32 q → R32 u → q_met mX6_cell (qs layX s) [.ref 80, .int (Int32.ofInt p), .int (Int32.ofInt q), .int (Int32.ofInt u)] (PI layX Q)
theorem C_X6_cell.mono {s : ST} {p : Int} {q : Int} {u : Int} {Q Q' : ST → Int → Prop} (h : C_X6_cell s p q u Q) (hq : ∀ s v, Q s v → Q' s v) : C_X6_cell s p q u Q' := ⟨fun hA hrp hrq hru => q_met.mono (h.1 hA hrp hrq hru) (fun _ _ => PI.mono hq), trivial⟩
set_option maxRecDepth 20000 in
theorem s_X6_cell {s : ST} {p : Int} {q : Int} {u : Int} {Q : ST → Int → Prop} (h : RA s → R32 p → R32 q → R32 u → ((s.1 80 7 < 0 → Q s (-1)) ∧ (¬ s.1 80 7 < 0 → ((s.1 80 7 < 4000 → (R32 (s.1 80 7 + 1) ∧ (((0 : Int) ≤ s.1 80 7 ∧ s.1 80 7 < 4000) ∧ Q (ui (ui (ui (ui s 80 7 (s.1 80 7 + 1)) 81 (s.1 80 7) p) 82 (s.1 80 7) q) 83 (s.1 80 7) u) (s.1 80 7)))) ∧ (¬ s.1 80 7 < 4000 → Q s (-1)))))) : C_X6_cell s p q u Q := by
  refine ⟨?_, trivial⟩
  intro hA hrp hrq hru
  have h := h hA hrp hrq hru
  refine q_enter (by decide) (Nat.le_of_ble_eq_true rfl) ?_
  refine q_aload_n eX6_cell_0 rfl ?_
  refine q_getf (c := 6) (n := 0) (k := 7) (v := .int (Int32.ofInt (s.1 80 7))) eX6_cell_1 rfl (by decide) (by decide) fX6_41 rfl ?_
  refine q_iz_lt (tgt := 17) (a := s.1 80 7) eX6_cell_4 (by decide) (ofz (hA _ _)) (fun c4 => ?_) (fun c4 => ?_)
  · have h := h.1 c4
    refine q_ic (v := Int32.ofInt (-1)) eX6_cell_17 rfl ?_
    exact q_iret eX6_cell_18 rfl ⟨_, _, rfl, hA, (r32l rfl), rfl, h⟩
  · have h := h.2 c4
    refine q_aload_n eX6_cell_7 rfl ?_
    refine q_getf (c := 6) (n := 0) (k := 7) (v := .int (Int32.ofInt (s.1 80 7))) eX6_cell_8 rfl (by decide) (by decide) fX6_41 rfl ?_
    refine q_si (v := Int32.ofInt 4000) eX6_cell_11 rfl ?_
    refine q_cz_lt (tgt := 19) (a := s.1 80 7) (b := 4000) eX6_cell_14 (by decide) (ofz (hA _ _)) (ofz (r32l rfl)) (fun c14 => ?_) (fun c14 => ?_)
    · have h := h.1 c14
      refine q_aload_n eX6_cell_19 rfl ?_
      refine q_getf (c := 6) (n := 0) (k := 7) (v := .int (Int32.ofInt (s.1 80 7))) eX6_cell_20 rfl (by decide) (by decide) fX6_41 rfl ?_
      refine q_istore eX6_cell_23 (Nat.le_of_ble_eq_true rfl) ?_
      refine q_aload_n eX6_cell_25 rfl ?_
      refine q_dup eX6_cell_26 rfl ?_
      refine q_getf (c := 6) (n := 0) (k := 7) (v := .int (Int32.ofInt (s.1 80 7))) eX6_cell_27 rfl (by decide) (by decide) fX6_41 rfl ?_
      refine q_ic (v := Int32.ofInt 1) eX6_cell_30 rfl ?_
      refine z_iadd eX6_cell_31 ?_
      have r1 := h.1
      have h := h.2
      refine z_putI (c := 6) (n := 0) (k := 7) (kz := 7) eX6_cell_32 rfl (by decide) (by decide) fX6_41 rfl rfl rfl ?_
      refine q_aload_n eX6_cell_35 rfl ?_
      refine q_getR (c := 6) (n := 0) (k := 4) (a := 81) eX6_cell_36 rfl (by decide) (by decide) fX6_15 rfl rfl ?_
      refine q_iload eX6_cell_39 rfl ?_
      refine q_iload_n eX6_cell_41 rfl ?_
      have f2 := h.1
      have h := h.2
      refine z_iast (n := 4000) eX6_cell_42 rfl (ofz (hA _ _)) f2  ?_
      refine q_aload_n eX6_cell_43 rfl ?_
      refine q_getR (c := 6) (n := 0) (k := 5) (a := 82) eX6_cell_44 rfl (by decide) (by decide) fX6_19 rfl rfl ?_
      refine q_iload eX6_cell_47 rfl ?_
      refine q_iload_n eX6_cell_49 rfl ?_
      refine z_iast (n := 4000) eX6_cell_50 rfl (ofz (hA _ _)) f2  ?_
      refine q_aload_n eX6_cell_51 rfl ?_
      refine q_getR (c := 6) (n := 0) (k := 6) (a := 83) eX6_cell_52 rfl (by decide) (by decide) fX6_22 rfl rfl ?_
      refine q_iload eX6_cell_55 rfl ?_
      refine q_iload_n eX6_cell_57 rfl ?_
      refine z_iast (n := 4000) eX6_cell_58 rfl (ofz (hA _ _)) f2  ?_
      refine q_iload eX6_cell_59 rfl ?_
      exact q_iret eX6_cell_61 rfl ⟨_, _, rfl, (ra_ui (ra_ui (ra_ui (ra_ui hA r1) hrp) hrq) hru), (hA _ _), rfl, h⟩
    · have h := h.2 c14
      refine q_ic (v := Int32.ofInt (-1)) eX6_cell_17 rfl ?_
      exact q_iret eX6_cell_18 rfl ⟨_, _, rfl, hA, (r32l rfl), rfl, h⟩
theorem eX6_stepCall_0 : decode cX6_stepCall 0 = .ok (.iload 4, 2) := by decide +kernel
theorem eX6_stepCall_2 : decode cX6_stepCall 2 = .ok (.iconst 2, 1) := by decide +kernel
theorem eX6_stepCall_3 : decode cX6_stepCall 3 = .ok (.if_icmp .ge 15, 3) := by decide +kernel
theorem eX6_stepCall_6 : decode cX6_stepCall 6 = .ok (.aload_n 0, 1) := by decide +kernel
theorem eX6_stepCall_7 : decode cX6_stepCall 7 = .ok (.iload_n 1, 1) := by decide +kernel
theorem eX6_stepCall_8 : decode cX6_stepCall 8 = .ok (.iload_n 2, 1) := by decide +kernel
theorem eX6_stepCall_9 : decode cX6_stepCall 9 = .ok (.iload_n 3, 1) := by decide +kernel
theorem eX6_stepCall_10 : decode cX6_stepCall 10 = .ok (.iload 4, 2) := by decide +kernel
theorem eX6_stepCall_12 : decode cX6_stepCall 12 = .ok (.invokevirtual 133, 3) := by decide +kernel
theorem eX6_stepCall_15 : decode cX6_stepCall 15 = .ok (.goto 84, 3) := by decide +kernel
theorem eX6_stepCall_18 : decode cX6_stepCall 18 = .ok (.iload 4, 2) := by decide +kernel
theorem eX6_stepCall_20 : decode cX6_stepCall 20 = .ok (.iconst 2, 1) := by decide +kernel
theorem eX6_stepCall_21 : decode cX6_stepCall 21 = .ok (.if_icmp .le 14, 3) := by decide +kernel
theorem eX6_stepCall_24 : decode cX6_stepCall 24 = .ok (.aload_n 0, 1) := by decide +kernel
theorem eX6_stepCall_25 : decode cX6_stepCall 25 = .ok (.aload_n 0, 1) := by decide +kernel
theorem eX6_stepCall_26 : decode cX6_stepCall 26 = .ok (.getfield 50, 3) := by decide +kernel
theorem eX6_stepCall_29 : decode cX6_stepCall 29 = .ok (.invokevirtual 112, 3) := by decide +kernel
theorem eX6_stepCall_32 : decode cX6_stepCall 32 = .ok (.goto 67, 3) := by decide +kernel
theorem eX6_stepCall_35 : decode cX6_stepCall 35 = .ok (.aload_n 0, 1) := by decide +kernel
theorem eX6_stepCall_36 : decode cX6_stepCall 36 = .ok (.aload_n 0, 1) := by decide +kernel
theorem eX6_stepCall_37 : decode cX6_stepCall 37 = .ok (.getfield 34, 3) := by decide +kernel
theorem eX6_stepCall_40 : decode cX6_stepCall 40 = .ok (.iload_n 1, 1) := by decide +kernel
theorem eX6_stepCall_41 : decode cX6_stepCall 41 = .ok (.iaload, 1) := by decide +kernel
theorem eX6_stepCall_42 : decode cX6_stepCall 42 = .ok (.invokevirtual 71, 3) := by decide +kernel
theorem eX6_stepCall_45 : decode cX6_stepCall 45 = .ok (.iconst 4, 1) := by decide +kernel
theorem eX6_stepCall_46 : decode cX6_stepCall 46 = .ok (.if_icmp .eq 12, 3) := by decide +kernel
theorem eX6_stepCall_49 : decode cX6_stepCall 49 = .ok (.aload_n 0, 1) := by decide +kernel
theorem eX6_stepCall_50 : decode cX6_stepCall 50 = .ok (.bipush (-2), 2) := by decide +kernel
theorem eX6_stepCall_52 : decode cX6_stepCall 52 = .ok (.putfield 47, 3) := by decide +kernel
theorem eX6_stepCall_55 : decode cX6_stepCall 55 = .ok (.goto 44, 3) := by decide +kernel
theorem eX6_stepCall_58 : decode cX6_stepCall 58 = .ok (.aload_n 0, 1) := by decide +kernel
theorem eX6_stepCall_59 : decode cX6_stepCall 59 = .ok (.getfield 34, 3) := by decide +kernel
theorem eX6_stepCall_62 : decode cX6_stepCall 62 = .ok (.iload_n 1, 1) := by decide +kernel
theorem eX6_stepCall_63 : decode cX6_stepCall 63 = .ok (.iaload, 1) := by decide +kernel
theorem eX6_stepCall_64 : decode cX6_stepCall 64 = .ok (.istore 5, 2) := by decide +kernel
theorem eX6_stepCall_66 : decode cX6_stepCall 66 = .ok (.aload_n 0, 1) := by decide +kernel
theorem eX6_stepCall_67 : decode cX6_stepCall 67 = .ok (.aload_n 0, 1) := by decide +kernel
theorem eX6_stepCall_68 : decode cX6_stepCall 68 = .ok (.getfield 37, 3) := by decide +kernel
theorem eX6_stepCall_71 : decode cX6_stepCall 71 = .ok (.aload_n 0, 1) := by decide +kernel
theorem eX6_stepCall_72 : decode cX6_stepCall 72 = .ok (.iload 5, 2) := by decide +kernel
theorem eX6_stepCall_74 : decode cX6_stepCall 74 = .ok (.invokevirtual 130, 3) := by decide +kernel
theorem eX6_stepCall_77 : decode cX6_stepCall 77 = .ok (.iconst 0, 1) := by decide +kernel
theorem eX6_stepCall_78 : decode cX6_stepCall 78 = .ok (.invokevirtual 94, 3) := by decide +kernel
theorem eX6_stepCall_81 : decode cX6_stepCall 81 = .ok (.aload_n 0, 1) := by decide +kernel
theorem eX6_stepCall_82 : decode cX6_stepCall 82 = .ok (.iconst (-1), 1) := by decide +kernel
theorem eX6_stepCall_83 : decode cX6_stepCall 83 = .ok (.aload_n 0, 1) := by decide +kernel
theorem eX6_stepCall_84 : decode cX6_stepCall 84 = .ok (.getfield 50, 3) := by decide +kernel
theorem eX6_stepCall_87 : decode cX6_stepCall 87 = .ok (.aload_n 0, 1) := by decide +kernel
theorem eX6_stepCall_88 : decode cX6_stepCall 88 = .ok (.iload 5, 2) := by decide +kernel
theorem eX6_stepCall_90 : decode cX6_stepCall 90 = .ok (.invokevirtual 124, 3) := by decide +kernel
theorem eX6_stepCall_93 : decode cX6_stepCall 93 = .ok (.invokevirtual 108, 3) := by decide +kernel
theorem eX6_stepCall_96 : decode cX6_stepCall 96 = .ok (.invokevirtual 62, 3) := by decide +kernel
theorem eX6_stepCall_99 : decode cX6_stepCall 99 = .ok (.return_, 1) := by decide +kernel
def C_X6_stepCall (s : ST) (p : Int) (q : Int) (u : Int) (w : Int) (Q : ST → Prop) : Prop := bx <| RA s → R32 p → R32 q → R32 u → R32 w → q_met mX6_stepCall (qs layX s) [.ref 80, .int (Int32.ofInt p), .int (Int32.ofInt q), .int (Int32.ofInt u), .int (Int32.ofInt w)] (PV layX Q)
theorem C_X6_stepCall.mono {s : ST} {p : Int} {q : Int} {u : Int} {w : Int} {Q Q' : ST → Prop} (h : C_X6_stepCall s p q u w Q) (hq : ∀ s, Q s → Q' s) : C_X6_stepCall s p q u w Q' := ⟨fun hA hrp hrq hru hrw => q_met.mono (h.1 hA hrp hrq hru hrw) (fun _ _ => PV.mono hq), trivial⟩
set_option maxRecDepth 20000 in
theorem s_X6_stepCall {s : ST} {p : Int} {q : Int} {u : Int} {w : Int} {Q : ST → Prop} (h : RA s → R32 p → R32 q → R32 u → R32 w → ((2 ≤ w → ((w ≤ 2 → (((0 : Int) ≤ p ∧ p < 151) ∧ (P_X6_headOf s (s.1 87 p) ∧ (((F_X6_headOf s (s.1 87 p)) = 4 → (P_X6_oneOf s (s.1 87 p) ∧ (P_X9_kidOf 2 s (F_X6_oneOf s (s.1 87 p)) 0 ∧ (P_X6_twoOf s (s.1 87 p) ∧ (C_X6_cell s (-1) (s.1 80 13) (F_X6_twoOf s (s.1 87 p)) (fun s10 v10 => (C_X6_enter s10 (F_X9_kidOf 2 s (F_X6_oneOf s (s.1 87 p)) 0) v10 (fun s11 => Q s11)))))))) ∧ (¬ (F_X6_headOf s (s.1 87 p)) = 4 → Q (ui s 80 14 (-2))))))) ∧ (¬ w ≤ 2 → (C_X6_leave s (s.1 80 13) (fun s12 => Q s12))))) ∧ (¬ 2 ≤ w → (C_X6_enterPart s p q u w (fun s13 => Q s13))))) : C_X6_stepCall s p q u w Q := by
  refine ⟨?_, trivial⟩
  intro hA hrp hrq hru hrw
  have h := h hA hrp hrq hru hrw
  refine q_enter (by decide) (Nat.le_of_ble_eq_true rfl) ?_
  refine q_iload eX6_stepCall_0 rfl ?_
  refine q_ic (v := Int32.ofInt 2) eX6_stepCall_2 rfl ?_
  refine q_cz_ge (tgt := 18) (a := w) (b := 2) eX6_stepCall_3 (by decide) (ofz hrw) (ofz (r32l rfl)) (fun c3 => ?_) (fun c3 => ?_)
  · have h := h.1 c3
    refine q_iload eX6_stepCall_18 rfl ?_
    refine q_ic (v := Int32.ofInt 2) eX6_stepCall_20 rfl ?_
    refine q_cz_le (tgt := 35) (a := w) (b := 2) eX6_stepCall_21 (by decide) (ofz hrw) (ofz (r32l rfl)) (fun c21 => ?_) (fun c21 => ?_)
    · have h := h.1 c21
      refine q_aload_n eX6_stepCall_35 rfl ?_
      refine q_aload_n eX6_stepCall_36 rfl ?_
      refine q_getR (c := 6) (n := 0) (k := 11) (a := 87) eX6_stepCall_37 rfl (by decide) (by decide) fX6_34 rfl rfl ?_
      refine q_iload_n eX6_stepCall_40 rfl ?_
      have f1 := h.1
      have h := h.2
      refine z_iald (n := 151) eX6_stepCall_41 rfl (ofz hrp) f1 ?_
      refine q_topI (v := Int32.ofInt (s.1 87 p)) rfl ?_
      have f3 := h.1
      have h := h.2
      refine q_V1 (ci := 6) (n := 0) eX6_stepCall_42 DX6_headOf lX6_71 rfl (by decide) rfl rfl rfl rfl (p_X6_headOf f3 hA (hA _ _)) ?_
      rintro _ _ ⟨r2, rfl, rfl⟩
      refine q_ic (v := Int32.ofInt 4) eX6_stepCall_45 rfl ?_
      refine q_cz_eq (tgt := 58) (a := (F_X6_headOf s (s.1 87 p))) (b := 4) eX6_stepCall_46 (by decide) (ofz r2) (ofz (r32l rfl)) (fun c46 => ?_) (fun c46 => ?_)
      · have h := h.1 c46
        refine q_aload_n eX6_stepCall_58 rfl ?_
        refine q_getR (c := 6) (n := 0) (k := 11) (a := 87) eX6_stepCall_59 rfl (by decide) (by decide) fX6_34 rfl rfl ?_
        refine q_iload_n eX6_stepCall_62 rfl ?_
        refine z_iald (n := 151) eX6_stepCall_63 rfl (ofz hrp) f1 ?_
        refine q_topI (v := Int32.ofInt (s.1 87 p)) rfl ?_
        refine q_istore eX6_stepCall_64 (Nat.le_of_ble_eq_true rfl) ?_
        refine q_aload_n eX6_stepCall_66 rfl ?_
        refine q_aload_n eX6_stepCall_67 rfl ?_
        refine q_getR (c := 6) (n := 0) (k := 3) (a := 2) eX6_stepCall_68 rfl (by decide) (by decide) fX6_37 rfl rfl ?_
        refine q_aload_n eX6_stepCall_71 rfl ?_
        refine q_iload eX6_stepCall_72 rfl ?_
        have f5 := h.1
        have h := h.2
        refine q_V1 (ci := 6) (n := 0) eX6_stepCall_74 DX6_oneOf lX6_130 rfl (by decide) rfl rfl rfl rfl (p_X6_oneOf f5 hA (hA _ _)) ?_
        rintro _ _ ⟨r4, rfl, rfl⟩
        refine q_ic (v := Int32.ofInt 0) eX6_stepCall_77 rfl ?_
        have f7 := h.1
        have h := h.2
        refine q_V2 (ci := 9) (n := 0) eX6_stepCall_78 DX9_kidOf lX6_94 rfl (by decide) rfl rfl rfl rfl (p_X9_kidOf f7 (by decide) hA r4 (r32l rfl)) ?_
        rintro _ _ ⟨r6, rfl, rfl⟩
        refine q_aload_n eX6_stepCall_81 rfl ?_
        refine q_ic (v := Int32.ofInt (-1)) eX6_stepCall_82 rfl ?_
        refine q_aload_n eX6_stepCall_83 rfl ?_
        refine q_getf (c := 6) (n := 0) (k := 13) (v := .int (Int32.ofInt (s.1 80 13))) eX6_stepCall_84 rfl (by decide) (by decide) fX6_50 rfl ?_
        refine q_aload_n eX6_stepCall_87 rfl ?_
        refine q_iload eX6_stepCall_88 rfl ?_
        have f9 := h.1
        have h := h.2
        refine q_V1 (ci := 6) (n := 0) eX6_stepCall_90 DX6_twoOf lX6_124 rfl (by decide) rfl rfl rfl rfl (p_X6_twoOf f9 hA (hA _ _)) ?_
        rintro _ _ ⟨r8, rfl, rfl⟩
        refine q_V3 (ci := 6) (n := 0) eX6_stepCall_93 DX6_cell lX6_108 rfl (by decide) rfl rfl rfl rfl (h.1 hA (r32l rfl) (hA _ _) r8) ?_
        rintro _ _ ⟨s10, v10, rfl, hA10, r10, rfl, h⟩
        refine q_V2 (ci := 6) (n := 0) eX6_stepCall_96 DX6_enter lX6_62 rfl (by decide) rfl rfl rfl rfl (h.1 hA10 r6 r10) ?_
        rintro _ _ ⟨s11, rfl, hA11, rfl, h⟩
        exact q_ret eX6_stepCall_99 rfl ⟨_, rfl, hA11, rfl, h⟩
      · have h := h.2 c46
        refine q_aload_n eX6_stepCall_49 rfl ?_
        refine q_bi (v := Int32.ofInt (-2)) eX6_stepCall_50 rfl ?_
        refine z_putI (c := 6) (n := 0) (k := 14) (kz := 14) eX6_stepCall_52 rfl (by decide) (by decide) fX6_47 rfl rfl rfl ?_
        refine q_goto (tgt := 99) eX6_stepCall_55 (by decide) ?_
        exact q_ret eX6_stepCall_99 rfl ⟨_, rfl, (ra_ui hA (r32l rfl)), rfl, h⟩
    · have h := h.2 c21
      refine q_aload_n eX6_stepCall_24 rfl ?_
      refine q_aload_n eX6_stepCall_25 rfl ?_
      refine q_getf (c := 6) (n := 0) (k := 13) (v := .int (Int32.ofInt (s.1 80 13))) eX6_stepCall_26 rfl (by decide) (by decide) fX6_50 rfl ?_
      refine q_V1 (ci := 6) (n := 0) eX6_stepCall_29 DX6_leave lX6_112 rfl (by decide) rfl rfl rfl rfl (h.1 hA (hA _ _)) ?_
      rintro _ _ ⟨s12, rfl, hA12, rfl, h⟩
      refine q_goto (tgt := 99) eX6_stepCall_32 (by decide) ?_
      exact q_ret eX6_stepCall_99 rfl ⟨_, rfl, hA12, rfl, h⟩
  · have h := h.2 c3
    refine q_aload_n eX6_stepCall_6 rfl ?_
    refine q_iload_n eX6_stepCall_7 rfl ?_
    refine q_iload_n eX6_stepCall_8 rfl ?_
    refine q_iload_n eX6_stepCall_9 rfl ?_
    refine q_iload eX6_stepCall_10 rfl ?_
    refine q_V4 (ci := 6) (n := 0) eX6_stepCall_12 DX6_enterPart lX6_133 rfl (by decide) rfl rfl rfl rfl (h.1 hA hrp hrq hru hrw) ?_
    rintro _ _ ⟨s13, rfl, hA13, rfl, h⟩
    refine q_goto (tgt := 99) eX6_stepCall_15 (by decide) ?_
    exact q_ret eX6_stepCall_99 rfl ⟨_, rfl, hA13, rfl, h⟩
theorem eX6_leaveIf_0 : decode cX6_leaveIf 0 = .ok (.iload_n 1, 1) := by decide +kernel
theorem eX6_leaveIf_1 : decode cX6_leaveIf 1 = .ok (.ifCond .eq 11, 3) := by decide +kernel
theorem eX6_leaveIf_4 : decode cX6_leaveIf 4 = .ok (.aload_n 0, 1) := by decide +kernel
theorem eX6_leaveIf_5 : decode cX6_leaveIf 5 = .ok (.iload_n 2, 1) := by decide +kernel
theorem eX6_leaveIf_6 : decode cX6_leaveIf 6 = .ok (.invokevirtual 112, 3) := by decide +kernel
theorem eX6_leaveIf_9 : decode cX6_leaveIf 9 = .ok (.goto 9, 3) := by decide +kernel
theorem eX6_leaveIf_12 : decode cX6_leaveIf 12 = .ok (.aload_n 0, 1) := by decide +kernel
theorem eX6_leaveIf_13 : decode cX6_leaveIf 13 = .ok (.bipush (-2), 2) := by decide +kernel
theorem eX6_leaveIf_15 : decode cX6_leaveIf 15 = .ok (.putfield 47, 3) := by decide +kernel
theorem eX6_leaveIf_18 : decode cX6_leaveIf 18 = .ok (.return_, 1) := by decide +kernel
def C_X6_leaveIf (s : ST) (p : Int) (q : Int) (Q : ST → Prop) : Prop := bx <| RA s → R32 p → R32 q → q_met mX6_leaveIf (qs layX s) [.ref 80, .int (Int32.ofInt p), .int (Int32.ofInt q)] (PV layX Q)
theorem C_X6_leaveIf.mono {s : ST} {p : Int} {q : Int} {Q Q' : ST → Prop} (h : C_X6_leaveIf s p q Q) (hq : ∀ s, Q s → Q' s) : C_X6_leaveIf s p q Q' := ⟨fun hA hrp hrq => q_met.mono (h.1 hA hrp hrq) (fun _ _ => PV.mono hq), trivial⟩
set_option maxRecDepth 20000 in
theorem s_X6_leaveIf {s : ST} {p : Int} {q : Int} {Q : ST → Prop} (h : RA s → R32 p → R32 q → ((p = 0 → Q (ui s 80 14 (-2))) ∧ (¬ p = 0 → (C_X6_leave s q (fun s1 => Q s1))))) : C_X6_leaveIf s p q Q := by
  refine ⟨?_, trivial⟩
  intro hA hrp hrq
  have h := h hA hrp hrq
  refine q_enter (by decide) (Nat.le_of_ble_eq_true rfl) ?_
  refine q_iload_n eX6_leaveIf_0 rfl ?_
  refine q_iz_eq (tgt := 12) (a := p) eX6_leaveIf_1 (by decide) (ofz hrp) (fun c1 => ?_) (fun c1 => ?_)
  · have h := h.1 c1
    refine q_aload_n eX6_leaveIf_12 rfl ?_
    refine q_bi (v := Int32.ofInt (-2)) eX6_leaveIf_13 rfl ?_
    refine z_putI (c := 6) (n := 0) (k := 14) (kz := 14) eX6_leaveIf_15 rfl (by decide) (by decide) fX6_47 rfl rfl rfl ?_
    exact q_ret eX6_leaveIf_18 rfl ⟨_, rfl, (ra_ui hA (r32l rfl)), rfl, h⟩
  · have h := h.2 c1
    refine q_aload_n eX6_leaveIf_4 rfl ?_
    refine q_iload_n eX6_leaveIf_5 rfl ?_
    refine q_V1 (ci := 6) (n := 0) eX6_leaveIf_6 DX6_leave lX6_112 rfl (by decide) rfl rfl rfl rfl (h.1 hA hrq) ?_
    rintro _ _ ⟨s1, rfl, hA1, rfl, h⟩
    refine q_goto (tgt := 18) eX6_leaveIf_9 (by decide) ?_
    exact q_ret eX6_leaveIf_18 rfl ⟨_, rfl, hA1, rfl, h⟩
theorem eX6_leaveRow_0 : decode cX6_leaveRow 0 = .ok (.aload_n 0, 1) := by decide +kernel
theorem eX6_leaveRow_1 : decode cX6_leaveRow 1 = .ok (.iload_n 1, 1) := by decide +kernel
theorem eX6_leaveRow_2 : decode cX6_leaveRow 2 = .ok (.invokevirtual 71, 3) := by decide +kernel
theorem eX6_leaveRow_5 : decode cX6_leaveRow 5 = .ok (.iconst 2, 1) := by decide +kernel
theorem eX6_leaveRow_6 : decode cX6_leaveRow 6 = .ok (.if_icmp .ne 21, 3) := by decide +kernel
theorem eX6_leaveRow_9 : decode cX6_leaveRow 9 = .ok (.aload_n 0, 1) := by decide +kernel
theorem eX6_leaveRow_10 : decode cX6_leaveRow 10 = .ok (.iload_n 1, 1) := by decide +kernel
theorem eX6_leaveRow_11 : decode cX6_leaveRow 11 = .ok (.invokevirtual 124, 3) := by decide +kernel
theorem eX6_leaveRow_14 : decode cX6_leaveRow 14 = .ok (.iconst (-1), 1) := by decide +kernel
theorem eX6_leaveRow_15 : decode cX6_leaveRow 15 = .ok (.if_icmp .ne 12, 3) := by decide +kernel
theorem eX6_leaveRow_18 : decode cX6_leaveRow 18 = .ok (.aload_n 0, 1) := by decide +kernel
theorem eX6_leaveRow_19 : decode cX6_leaveRow 19 = .ok (.bipush (-3), 2) := by decide +kernel
theorem eX6_leaveRow_21 : decode cX6_leaveRow 21 = .ok (.putfield 47, 3) := by decide +kernel
theorem eX6_leaveRow_24 : decode cX6_leaveRow 24 = .ok (.goto 22, 3) := by decide +kernel
theorem eX6_leaveRow_27 : decode cX6_leaveRow 27 = .ok (.aload_n 0, 1) := by decide +kernel
theorem eX6_leaveRow_28 : decode cX6_leaveRow 28 = .ok (.aload_n 0, 1) := by decide +kernel
theorem eX6_leaveRow_29 : decode cX6_leaveRow 29 = .ok (.iload_n 1, 1) := by decide +kernel
theorem eX6_leaveRow_30 : decode cX6_leaveRow 30 = .ok (.invokevirtual 71, 3) := by decide +kernel
theorem eX6_leaveRow_33 : decode cX6_leaveRow 33 = .ok (.iconst 2, 1) := by decide +kernel
theorem eX6_leaveRow_34 : decode cX6_leaveRow 34 = .ok (.if_icmp .ne 7, 3) := by decide +kernel
theorem eX6_leaveRow_37 : decode cX6_leaveRow 37 = .ok (.iconst 1, 1) := by decide +kernel
theorem eX6_leaveRow_38 : decode cX6_leaveRow 38 = .ok (.goto 4, 3) := by decide +kernel
theorem eX6_leaveRow_41 : decode cX6_leaveRow 41 = .ok (.iconst 0, 1) := by decide +kernel
theorem eX6_leaveRow_42 : decode cX6_leaveRow 42 = .ok (.iload_n 2, 1) := by decide +kernel
theorem eX6_leaveRow_43 : decode cX6_leaveRow 43 = .ok (.invokevirtual 144, 3) := by decide +kernel
theorem eX6_leaveRow_46 : decode cX6_leaveRow 46 = .ok (.return_, 1) := by decide +kernel
def C_X6_leaveRow (s : ST) (p : Int) (q : Int) (Q : ST → Prop) : Prop := bx <| RA s → R32 p → R32 q → q_met mX6_leaveRow (qs layX s) [.ref 80, .int (Int32.ofInt p), .int (Int32.ofInt q)] (PV layX Q)
theorem C_X6_leaveRow.mono {s : ST} {p : Int} {q : Int} {Q Q' : ST → Prop} (h : C_X6_leaveRow s p q Q) (hq : ∀ s, Q s → Q' s) : C_X6_leaveRow s p q Q' := ⟨fun hA hrp hrq => q_met.mono (h.1 hA hrp hrq) (fun _ _ => PV.mono hq), trivial⟩
def K_X6_leaveRow_42 (s : ST) (a2 : Int) (t1 : Int) (Q : ST → Prop) : Prop := bx <| RA s → R32 a2 → R32 t1 → q_K mX6_leaveRow (qs layX s) 0 0 42 [(2, .int (Int32.ofInt a2))] [.int (Int32.ofInt t1), .ref 80] (q_fin mX6_leaveRow (PV layX Q))
def K_X6_leaveRow_27 (s : ST) (a1 : Int) (a2 : Int) (Q : ST → Prop) : Prop := bx <| RA s → R32 a1 → R32 a2 → q_K mX6_leaveRow (qs layX s) 0 0 27 [(0, .ref 80), (1, .int (Int32.ofInt a1)), (2, .int (Int32.ofInt a2))] [] (q_fin mX6_leaveRow (PV layX Q))
set_option maxRecDepth 20000 in
theorem s_X6_leaveRow_42 {s : ST} {a2 : Int} {t1 : Int} {Q : ST → Prop} (h : RA s → R32 a2 → R32 t1 → (C_X6_leaveIf s t1 a2 (fun s1 => Q s1))) : K_X6_leaveRow_42 s a2 t1 Q := by
  refine ⟨?_, trivial⟩
  intro hA hra2 hrt1
  have h := h hA hra2 hrt1
  refine q_iload_n eX6_leaveRow_42 rfl ?_
  refine q_V2 (ci := 6) (n := 0) eX6_leaveRow_43 DX6_leaveIf lX6_144 rfl (by decide) rfl rfl rfl rfl (h.1 hA hrt1 hra2) ?_
  rintro _ _ ⟨s1, rfl, hA1, rfl, h⟩
  exact q_ret eX6_leaveRow_46 rfl ⟨_, rfl, hA1, rfl, h⟩
set_option maxRecDepth 20000 in
theorem s_X6_leaveRow_27 {s : ST} {a1 : Int} {a2 : Int} {Q : ST → Prop} (h : RA s → R32 a1 → R32 a2 → (P_X6_headOf s a1 ∧ ((¬ (F_X6_headOf s a1) = 2 → K_X6_leaveRow_42 s a2 0 Q) ∧ ((F_X6_headOf s a1) = 2 → K_X6_leaveRow_42 s a2 1 Q)))) : K_X6_leaveRow_27 s a1 a2 Q := by
  refine ⟨?_, trivial⟩
  intro hA hra1 hra2
  have h := h hA hra1 hra2
  refine q_aload_n eX6_leaveRow_27 rfl ?_
  refine q_aload_n eX6_leaveRow_28 rfl ?_
  refine q_iload_n eX6_leaveRow_29 rfl ?_
  have f2 := h.1
  have h := h.2
  refine q_V1 (ci := 6) (n := 0) eX6_leaveRow_30 DX6_headOf lX6_71 rfl (by decide) rfl rfl rfl rfl (p_X6_headOf f2 hA hra1) ?_
  rintro _ _ ⟨r1, rfl, rfl⟩
  refine q_ic (v := Int32.ofInt 2) eX6_leaveRow_33 rfl ?_
  refine q_cz_ne (tgt := 41) (a := (F_X6_headOf s a1)) (b := 2) eX6_leaveRow_34 (by decide) (ofz r1) (ofz (r32l rfl)) (fun c34 => ?_) (fun c34 => ?_)
  · have h := h.1 c34
    refine q_ic (v := Int32.ofInt 0) eX6_leaveRow_41 rfl ?_
    exact q_subL rfl (h.1 hA hra2 (r32l rfl))
  · have h := h.2 c34
    refine q_ic (v := Int32.ofInt 1) eX6_leaveRow_37 rfl ?_
    refine q_goto (tgt := 42) eX6_leaveRow_38 (by decide) ?_
    exact q_subL rfl (h.1 hA hra2 (r32l rfl))
set_option maxRecDepth 20000 in
theorem s_X6_leaveRow {s : ST} {p : Int} {q : Int} {Q : ST → Prop} (h : RA s → R32 p → R32 q → (P_X6_headOf s p ∧ ((¬ (F_X6_headOf s p) = 2 → K_X6_leaveRow_27 s p q Q) ∧ ((F_X6_headOf s p) = 2 → (P_X6_twoOf s p ∧ ((¬ (F_X6_twoOf s p) = (-1) → K_X6_leaveRow_27 s p q Q) ∧ ((F_X6_twoOf s p) = (-1) → Q (ui s 80 14 (-3))))))))) : C_X6_leaveRow s p q Q := by
  refine ⟨?_, trivial⟩
  intro hA hrp hrq
  have h := h hA hrp hrq
  refine q_enter (by decide) (Nat.le_of_ble_eq_true rfl) ?_
  refine q_aload_n eX6_leaveRow_0 rfl ?_
  refine q_iload_n eX6_leaveRow_1 rfl ?_
  have f2 := h.1
  have h := h.2
  refine q_V1 (ci := 6) (n := 0) eX6_leaveRow_2 DX6_headOf lX6_71 rfl (by decide) rfl rfl rfl rfl (p_X6_headOf f2 hA hrp) ?_
  rintro _ _ ⟨r1, rfl, rfl⟩
  refine q_ic (v := Int32.ofInt 2) eX6_leaveRow_5 rfl ?_
  refine q_cz_ne (tgt := 27) (a := (F_X6_headOf s p)) (b := 2) eX6_leaveRow_6 (by decide) (ofz r1) (ofz (r32l rfl)) (fun c6 => ?_) (fun c6 => ?_)
  · have h := h.1 c6
    exact q_subL rfl (h.1 hA hrp hrq)
  · have h := h.2 c6
    refine q_aload_n eX6_leaveRow_9 rfl ?_
    refine q_iload_n eX6_leaveRow_10 rfl ?_
    have f4 := h.1
    have h := h.2
    refine q_V1 (ci := 6) (n := 0) eX6_leaveRow_11 DX6_twoOf lX6_124 rfl (by decide) rfl rfl rfl rfl (p_X6_twoOf f4 hA hrp) ?_
    rintro _ _ ⟨r3, rfl, rfl⟩
    refine q_ic (v := Int32.ofInt (-1)) eX6_leaveRow_14 rfl ?_
    refine q_cz_ne (tgt := 27) (a := (F_X6_twoOf s p)) (b := (-1)) eX6_leaveRow_15 (by decide) (ofz r3) (ofz (r32l rfl)) (fun c15 => ?_) (fun c15 => ?_)
    · have h := h.1 c15
      exact q_subL rfl (h.1 hA hrp hrq)
    · have h := h.2 c15
      refine q_aload_n eX6_leaveRow_18 rfl ?_
      refine q_bi (v := Int32.ofInt (-3)) eX6_leaveRow_19 rfl ?_
      refine z_putI (c := 6) (n := 0) (k := 14) (kz := 14) eX6_leaveRow_21 rfl (by decide) (by decide) fX6_47 rfl rfl rfl ?_
      refine q_goto (tgt := 46) eX6_leaveRow_24 (by decide) ?_
      exact q_ret eX6_leaveRow_46 rfl ⟨_, rfl, (ra_ui hA (r32l rfl)), rfl, h⟩
theorem eX6_areNumbers_0 : decode cX6_areNumbers 0 = .ok (.aload_n 0, 1) := by decide +kernel
theorem eX6_areNumbers_1 : decode cX6_areNumbers 1 = .ok (.iload_n 1, 1) := by decide +kernel
theorem eX6_areNumbers_2 : decode cX6_areNumbers 2 = .ok (.invokevirtual 71, 3) := by decide +kernel
theorem eX6_areNumbers_5 : decode cX6_areNumbers 5 = .ok (.ifCond .ne 15, 3) := by decide +kernel
theorem eX6_areNumbers_8 : decode cX6_areNumbers 8 = .ok (.aload_n 0, 1) := by decide +kernel
theorem eX6_areNumbers_9 : decode cX6_areNumbers 9 = .ok (.iload_n 2, 1) := by decide +kernel
theorem eX6_areNumbers_10 : decode cX6_areNumbers 10 = .ok (.invokevirtual 71, 3) := by decide +kernel
theorem eX6_areNumbers_13 : decode cX6_areNumbers 13 = .ok (.ifCond .ne 7, 3) := by decide +kernel
theorem eX6_areNumbers_16 : decode cX6_areNumbers 16 = .ok (.iconst 1, 1) := by decide +kernel
theorem eX6_areNumbers_17 : decode cX6_areNumbers 17 = .ok (.goto 4, 3) := by decide +kernel
theorem eX6_areNumbers_20 : decode cX6_areNumbers 20 = .ok (.iconst 0, 1) := by decide +kernel
theorem eX6_areNumbers_21 : decode cX6_areNumbers 21 = .ok (.ireturn, 1) := by decide +kernel
def C_X6_areNumbers (s : ST) (p : Int) (q : Int) (Q : ST → Int → Prop) : Prop := bx <| RA s → R32 p → R32 q → q_met mX6_areNumbers (qs layX s) [.ref 80, .int (Int32.ofInt p), .int (Int32.ofInt q)] (PB layX Q)
theorem C_X6_areNumbers.mono {s : ST} {p : Int} {q : Int} {Q Q' : ST → Int → Prop} (h : C_X6_areNumbers s p q Q) (hq : ∀ s v, Q s v → Q' s v) : C_X6_areNumbers s p q Q' := ⟨fun hA hrp hrq => q_met.mono (h.1 hA hrp hrq) (fun _ _ => PB.mono hq), trivial⟩
set_option maxRecDepth 20000 in
theorem s_X6_areNumbers {s : ST} {p : Int} {q : Int} {Q : ST → Int → Prop} (h : RA s → R32 p → R32 q → (P_X6_headOf s p ∧ ((¬ (F_X6_headOf s p) = 0 → Q s 0) ∧ ((F_X6_headOf s p) = 0 → (P_X6_headOf s q ∧ ((¬ (F_X6_headOf s q) = 0 → Q s 0) ∧ ((F_X6_headOf s q) = 0 → Q s 1))))))) : C_X6_areNumbers s p q Q := by
  refine ⟨?_, trivial⟩
  intro hA hrp hrq
  have h := h hA hrp hrq
  refine q_enter (by decide) (Nat.le_of_ble_eq_true rfl) ?_
  refine q_aload_n eX6_areNumbers_0 rfl ?_
  refine q_iload_n eX6_areNumbers_1 rfl ?_
  have f2 := h.1
  have h := h.2
  refine q_V1 (ci := 6) (n := 0) eX6_areNumbers_2 DX6_headOf lX6_71 rfl (by decide) rfl rfl rfl rfl (p_X6_headOf f2 hA hrp) ?_
  rintro _ _ ⟨r1, rfl, rfl⟩
  refine q_iz_ne (tgt := 20) (a := (F_X6_headOf s p)) eX6_areNumbers_5 (by decide) (ofz r1) (fun c5 => ?_) (fun c5 => ?_)
  · have h := h.1 c5
    refine q_ic (v := Int32.ofInt 0) eX6_areNumbers_20 rfl ?_
    exact q_zret eX6_areNumbers_21 rfl (z01 (Or.inl rfl)) ⟨_, _, rfl, hA, (Or.inl rfl), rfl, h⟩
  · have h := h.2 c5
    refine q_aload_n eX6_areNumbers_8 rfl ?_
    refine q_iload_n eX6_areNumbers_9 rfl ?_
    have f4 := h.1
    have h := h.2
    refine q_V1 (ci := 6) (n := 0) eX6_areNumbers_10 DX6_headOf lX6_71 rfl (by decide) rfl rfl rfl rfl (p_X6_headOf f4 hA hrq) ?_
    rintro _ _ ⟨r3, rfl, rfl⟩
    refine q_iz_ne (tgt := 20) (a := (F_X6_headOf s q)) eX6_areNumbers_13 (by decide) (ofz r3) (fun c13 => ?_) (fun c13 => ?_)
    · have h := h.1 c13
      refine q_ic (v := Int32.ofInt 0) eX6_areNumbers_20 rfl ?_
      exact q_zret eX6_areNumbers_21 rfl (z01 (Or.inl rfl)) ⟨_, _, rfl, hA, (Or.inl rfl), rfl, h⟩
    · have h := h.2 c13
      refine q_ic (v := Int32.ofInt 1) eX6_areNumbers_16 rfl ?_
      refine q_goto (tgt := 21) eX6_areNumbers_17 (by decide) ?_
      exact q_zret eX6_areNumbers_21 rfl (z01 (Or.inr rfl)) ⟨_, _, rfl, hA, (Or.inr rfl), rfl, h⟩
def F_X6_areNumbers (s : ST) (p : Int) (q : Int) : Int := (if (F_X6_headOf s p) = 0 then (if (F_X6_headOf s q) = 0 then 1 else 0) else 0)
abbrev P_X6_areNumbers (s : ST) (p : Int) (q : Int) : Prop := (P_X6_headOf s p ∧ ((F_X6_headOf s p) = 0 → P_X6_headOf s q))
theorem w_X6_areNumbers {s : ST} {p : Int} {q : Int} (h : P_X6_areNumbers s p q) : C_X6_areNumbers s p q (fun s' v => s' = s ∧ v = F_X6_areNumbers s p q) := by
  refine s_X6_areNumbers (fun hA hrp hrq => ?_)
  unfold P_X6_areNumbers at h
  refine ⟨h.1, ?_⟩
  have h := h.2
  refine ⟨fun e0 => ?_, fun e0 => ?_⟩
  · exact ⟨rfl, by unfold F_X6_areNumbers; rw [if_neg e0]⟩
  · have h := h e0
    refine ⟨h, ?_⟩
    refine ⟨fun e1 => ?_, fun e1 => ?_⟩
    · exact ⟨rfl, by unfold F_X6_areNumbers; rw [if_pos e0, if_neg e1]⟩
    · exact ⟨rfl, by unfold F_X6_areNumbers; rw [if_pos e0, if_pos e1]⟩
theorem p_X6_areNumbers {s : ST} {p : Int} {q : Int} (h : P_X6_areNumbers s p q) : RA s → R32 p → R32 q → q_met mX6_areNumbers (qs layX s) [.ref 80, .int (Int32.ofInt p), .int (Int32.ofInt q)] (fun σ r => (F_X6_areNumbers s p q = 0 ∨ F_X6_areNumbers s p q = 1) ∧ σ = qs layX s ∧ r = some (.int (Int32.ofInt (F_X6_areNumbers s p q)))) := fun hA hrp hrq => q_met.mono ((w_X6_areNumbers h).1 hA hrp hrq) (by
  rintro _ _ ⟨s1, v1, rfl, h1, h2, rfl, rfl, rfl⟩
  exact ⟨h2, rfl, rfl⟩)
theorem n_X6_areNumbers {s : ST} {p : Int} {q : Int} : ¬ F_X6_areNumbers s p q = 0 ↔ ((F_X6_headOf s p) = 0 ∧ (F_X6_headOf s q) = 0) := by
  unfold F_X6_areNumbers
  first | omega | ((repeat' split) <;> simp_all) | ((repeat' split) <;> (simp_all <;> omega))
theorem eX6_finish_0 : decode cX6_finish 0 = .ok (.aload_n 0, 1) := by decide +kernel
theorem eX6_finish_1 : decode cX6_finish 1 = .ok (.getfield 37, 3) := by decide +kernel
theorem eX6_finish_4 : decode cX6_finish 4 = .ok (.iload_n 1, 1) := by decide +kernel
theorem eX6_finish_5 : decode cX6_finish 5 = .ok (.invokevirtual 87, 3) := by decide +kernel
theorem eX6_finish_8 : decode cX6_finish 8 = .ok (.tableswitch 284 0 14 #[76, 98, 284, 284, 284, 284, 284, 134, 148, 174, 120, 200, 228, 241, 254], 76) := by decide +kernel
theorem eX6_finish_84 : decode cX6_finish 84 = .ok (.aload_n 0, 1) := by decide +kernel
theorem eX6_finish_85 : decode cX6_finish 85 = .ok (.aload_n 0, 1) := by decide +kernel
theorem eX6_finish_86 : decode cX6_finish 86 = .ok (.iconst 0, 1) := by decide +kernel
theorem eX6_finish_87 : decode cX6_finish 87 = .ok (.aload_n 0, 1) := by decide +kernel
theorem eX6_finish_88 : decode cX6_finish 88 = .ok (.getfield 37, 3) := by decide +kernel
theorem eX6_finish_91 : decode cX6_finish 91 = .ok (.getfield 142, 3) := by decide +kernel
theorem eX6_finish_94 : decode cX6_finish 94 = .ok (.iload_n 1, 1) := by decide +kernel
theorem eX6_finish_95 : decode cX6_finish 95 = .ok (.iaload, 1) := by decide +kernel
theorem eX6_finish_96 : decode cX6_finish 96 = .ok (.iconst (-1), 1) := by decide +kernel
theorem eX6_finish_97 : decode cX6_finish 97 = .ok (.invokevirtual 108, 3) := by decide +kernel
theorem eX6_finish_100 : decode cX6_finish 100 = .ok (.invokevirtual 112, 3) := by decide +kernel
theorem eX6_finish_103 : decode cX6_finish 103 = .ok (.goto 223, 3) := by decide +kernel
theorem eX6_finish_106 : decode cX6_finish 106 = .ok (.aload_n 0, 1) := by decide +kernel
theorem eX6_finish_107 : decode cX6_finish 107 = .ok (.aload_n 0, 1) := by decide +kernel
theorem eX6_finish_108 : decode cX6_finish 108 = .ok (.iconst 1, 1) := by decide +kernel
theorem eX6_finish_109 : decode cX6_finish 109 = .ok (.aload_n 0, 1) := by decide +kernel
theorem eX6_finish_110 : decode cX6_finish 110 = .ok (.getfield 37, 3) := by decide +kernel
theorem eX6_finish_113 : decode cX6_finish 113 = .ok (.getfield 142, 3) := by decide +kernel
theorem eX6_finish_116 : decode cX6_finish 116 = .ok (.iload_n 1, 1) := by decide +kernel
theorem eX6_finish_117 : decode cX6_finish 117 = .ok (.iaload, 1) := by decide +kernel
theorem eX6_finish_118 : decode cX6_finish 118 = .ok (.iconst (-1), 1) := by decide +kernel
theorem eX6_finish_119 : decode cX6_finish 119 = .ok (.invokevirtual 108, 3) := by decide +kernel
theorem eX6_finish_122 : decode cX6_finish 122 = .ok (.invokevirtual 112, 3) := by decide +kernel
theorem eX6_finish_125 : decode cX6_finish 125 = .ok (.goto 201, 3) := by decide +kernel
theorem eX6_finish_128 : decode cX6_finish 128 = .ok (.aload_n 0, 1) := by decide +kernel
theorem eX6_finish_129 : decode cX6_finish 129 = .ok (.aload_n 0, 1) := by decide +kernel
theorem eX6_finish_130 : decode cX6_finish 130 = .ok (.iconst 2, 1) := by decide +kernel
theorem eX6_finish_131 : decode cX6_finish 131 = .ok (.iconst (-1), 1) := by decide +kernel
theorem eX6_finish_132 : decode cX6_finish 132 = .ok (.iconst (-1), 1) := by decide +kernel
theorem eX6_finish_133 : decode cX6_finish 133 = .ok (.invokevirtual 108, 3) := by decide +kernel
theorem eX6_finish_136 : decode cX6_finish 136 = .ok (.invokevirtual 112, 3) := by decide +kernel
theorem eX6_finish_139 : decode cX6_finish 139 = .ok (.goto 187, 3) := by decide +kernel
theorem eX6_finish_142 : decode cX6_finish 142 = .ok (.aload_n 0, 1) := by decide +kernel
theorem eX6_finish_143 : decode cX6_finish 143 = .ok (.aload_n 0, 1) := by decide +kernel
theorem eX6_finish_144 : decode cX6_finish 144 = .ok (.iconst 3, 1) := by decide +kernel
theorem eX6_finish_145 : decode cX6_finish 145 = .ok (.iload_n 2, 1) := by decide +kernel
theorem eX6_finish_146 : decode cX6_finish 146 = .ok (.iload_n 3, 1) := by decide +kernel
theorem eX6_finish_147 : decode cX6_finish 147 = .ok (.invokevirtual 108, 3) := by decide +kernel
theorem eX6_finish_150 : decode cX6_finish 150 = .ok (.invokevirtual 112, 3) := by decide +kernel
theorem eX6_finish_153 : decode cX6_finish 153 = .ok (.goto 173, 3) := by decide +kernel
theorem eX6_finish_156 : decode cX6_finish 156 = .ok (.aload_n 0, 1) := by decide +kernel
theorem eX6_finish_157 : decode cX6_finish 157 = .ok (.aload_n 0, 1) := by decide +kernel
theorem eX6_finish_158 : decode cX6_finish 158 = .ok (.iload_n 2, 1) := by decide +kernel
theorem eX6_finish_159 : decode cX6_finish 159 = .ok (.invokevirtual 71, 3) := by decide +kernel
theorem eX6_finish_162 : decode cX6_finish 162 = .ok (.iconst 3, 1) := by decide +kernel
theorem eX6_finish_163 : decode cX6_finish 163 = .ok (.if_icmp .ne 7, 3) := by decide +kernel
theorem eX6_finish_166 : decode cX6_finish 166 = .ok (.iconst 1, 1) := by decide +kernel
theorem eX6_finish_167 : decode cX6_finish 167 = .ok (.goto 4, 3) := by decide +kernel
theorem eX6_finish_170 : decode cX6_finish 170 = .ok (.iconst 0, 1) := by decide +kernel
theorem eX6_finish_171 : decode cX6_finish 171 = .ok (.aload_n 0, 1) := by decide +kernel
theorem eX6_finish_172 : decode cX6_finish 172 = .ok (.iload_n 2, 1) := by decide +kernel
theorem eX6_finish_173 : decode cX6_finish 173 = .ok (.invokevirtual 130, 3) := by decide +kernel
theorem eX6_finish_176 : decode cX6_finish 176 = .ok (.invokevirtual 144, 3) := by decide +kernel
theorem eX6_finish_179 : decode cX6_finish 179 = .ok (.goto 147, 3) := by decide +kernel
theorem eX6_finish_182 : decode cX6_finish 182 = .ok (.aload_n 0, 1) := by decide +kernel
theorem eX6_finish_183 : decode cX6_finish 183 = .ok (.aload_n 0, 1) := by decide +kernel
theorem eX6_finish_184 : decode cX6_finish 184 = .ok (.iload_n 2, 1) := by decide +kernel
theorem eX6_finish_185 : decode cX6_finish 185 = .ok (.invokevirtual 71, 3) := by decide +kernel
theorem eX6_finish_188 : decode cX6_finish 188 = .ok (.iconst 3, 1) := by decide +kernel
theorem eX6_finish_189 : decode cX6_finish 189 = .ok (.if_icmp .ne 7, 3) := by decide +kernel
theorem eX6_finish_192 : decode cX6_finish 192 = .ok (.iconst 1, 1) := by decide +kernel
theorem eX6_finish_193 : decode cX6_finish 193 = .ok (.goto 4, 3) := by decide +kernel
theorem eX6_finish_196 : decode cX6_finish 196 = .ok (.iconst 0, 1) := by decide +kernel
theorem eX6_finish_197 : decode cX6_finish 197 = .ok (.aload_n 0, 1) := by decide +kernel
theorem eX6_finish_198 : decode cX6_finish 198 = .ok (.iload_n 2, 1) := by decide +kernel
theorem eX6_finish_199 : decode cX6_finish 199 = .ok (.invokevirtual 124, 3) := by decide +kernel
theorem eX6_finish_202 : decode cX6_finish 202 = .ok (.invokevirtual 144, 3) := by decide +kernel
theorem eX6_finish_205 : decode cX6_finish 205 = .ok (.goto 121, 3) := by decide +kernel
theorem eX6_finish_208 : decode cX6_finish 208 = .ok (.aload_n 0, 1) := by decide +kernel
theorem eX6_finish_209 : decode cX6_finish 209 = .ok (.aload_n 0, 1) := by decide +kernel
theorem eX6_finish_210 : decode cX6_finish 210 = .ok (.iload_n 3, 1) := by decide +kernel
theorem eX6_finish_211 : decode cX6_finish 211 = .ok (.invokevirtual 71, 3) := by decide +kernel
theorem eX6_finish_214 : decode cX6_finish 214 = .ok (.iconst 2, 1) := by decide +kernel
theorem eX6_finish_215 : decode cX6_finish 215 = .ok (.if_icmp .ne 7, 3) := by decide +kernel
theorem eX6_finish_218 : decode cX6_finish 218 = .ok (.iconst 1, 1) := by decide +kernel
theorem eX6_finish_219 : decode cX6_finish 219 = .ok (.goto 4, 3) := by decide +kernel
theorem eX6_finish_222 : decode cX6_finish 222 = .ok (.iconst 0, 1) := by decide +kernel
theorem eX6_finish_223 : decode cX6_finish 223 = .ok (.aload_n 0, 1) := by decide +kernel
theorem eX6_finish_224 : decode cX6_finish 224 = .ok (.iconst 2, 1) := by decide +kernel
theorem eX6_finish_225 : decode cX6_finish 225 = .ok (.iload_n 2, 1) := by decide +kernel
theorem eX6_finish_226 : decode cX6_finish 226 = .ok (.iload_n 3, 1) := by decide +kernel
theorem eX6_finish_227 : decode cX6_finish 227 = .ok (.invokevirtual 108, 3) := by decide +kernel
theorem eX6_finish_230 : decode cX6_finish 230 = .ok (.invokevirtual 144, 3) := by decide +kernel
theorem eX6_finish_233 : decode cX6_finish 233 = .ok (.goto 93, 3) := by decide +kernel
theorem eX6_finish_236 : decode cX6_finish 236 = .ok (.aload_n 0, 1) := by decide +kernel
theorem eX6_finish_237 : decode cX6_finish 237 = .ok (.iload_n 2, 1) := by decide +kernel
theorem eX6_finish_238 : decode cX6_finish 238 = .ok (.aload_n 0, 1) := by decide +kernel
theorem eX6_finish_239 : decode cX6_finish 239 = .ok (.iload_n 2, 1) := by decide +kernel
theorem eX6_finish_240 : decode cX6_finish 240 = .ok (.invokevirtual 130, 3) := by decide +kernel
theorem eX6_finish_243 : decode cX6_finish 243 = .ok (.invokevirtual 148, 3) := by decide +kernel
theorem eX6_finish_246 : decode cX6_finish 246 = .ok (.goto 80, 3) := by decide +kernel
theorem eX6_finish_249 : decode cX6_finish 249 = .ok (.aload_n 0, 1) := by decide +kernel
theorem eX6_finish_250 : decode cX6_finish 250 = .ok (.iload_n 2, 1) := by decide +kernel
theorem eX6_finish_251 : decode cX6_finish 251 = .ok (.aload_n 0, 1) := by decide +kernel
theorem eX6_finish_252 : decode cX6_finish 252 = .ok (.iload_n 2, 1) := by decide +kernel
theorem eX6_finish_253 : decode cX6_finish 253 = .ok (.invokevirtual 124, 3) := by decide +kernel
theorem eX6_finish_256 : decode cX6_finish 256 = .ok (.invokevirtual 148, 3) := by decide +kernel
theorem eX6_finish_259 : decode cX6_finish 259 = .ok (.goto 67, 3) := by decide +kernel
theorem eX6_finish_262 : decode cX6_finish 262 = .ok (.aload_n 0, 1) := by decide +kernel
theorem eX6_finish_263 : decode cX6_finish 263 = .ok (.aload_n 0, 1) := by decide +kernel
theorem eX6_finish_264 : decode cX6_finish 264 = .ok (.iload_n 2, 1) := by decide +kernel
theorem eX6_finish_265 : decode cX6_finish 265 = .ok (.iload_n 3, 1) := by decide +kernel
theorem eX6_finish_266 : decode cX6_finish 266 = .ok (.invokevirtual 151, 3) := by decide +kernel
theorem eX6_finish_269 : decode cX6_finish 269 = .ok (.aload_n 0, 1) := by decide +kernel
theorem eX6_finish_270 : decode cX6_finish 270 = .ok (.iconst 0, 1) := by decide +kernel
theorem eX6_finish_271 : decode cX6_finish 271 = .ok (.aload_n 0, 1) := by decide +kernel
theorem eX6_finish_272 : decode cX6_finish 272 = .ok (.iload_n 2, 1) := by decide +kernel
theorem eX6_finish_273 : decode cX6_finish 273 = .ok (.invokevirtual 130, 3) := by decide +kernel
theorem eX6_finish_276 : decode cX6_finish 276 = .ok (.aload_n 0, 1) := by decide +kernel
theorem eX6_finish_277 : decode cX6_finish 277 = .ok (.iload_n 3, 1) := by decide +kernel
theorem eX6_finish_278 : decode cX6_finish 278 = .ok (.invokevirtual 130, 3) := by decide +kernel
theorem eX6_finish_281 : decode cX6_finish 281 = .ok (.iadd, 1) := by decide +kernel
theorem eX6_finish_282 : decode cX6_finish 282 = .ok (.iconst (-1), 1) := by decide +kernel
theorem eX6_finish_283 : decode cX6_finish 283 = .ok (.invokevirtual 108, 3) := by decide +kernel
theorem eX6_finish_286 : decode cX6_finish 286 = .ok (.invokevirtual 144, 3) := by decide +kernel
theorem eX6_finish_289 : decode cX6_finish 289 = .ok (.goto 37, 3) := by decide +kernel
theorem eX6_finish_292 : decode cX6_finish 292 = .ok (.aload_n 0, 1) := by decide +kernel
theorem eX6_finish_293 : decode cX6_finish 293 = .ok (.aload_n 0, 1) := by decide +kernel
theorem eX6_finish_294 : decode cX6_finish 294 = .ok (.iload_n 2, 1) := by decide +kernel
theorem eX6_finish_295 : decode cX6_finish 295 = .ok (.iload_n 3, 1) := by decide +kernel
theorem eX6_finish_296 : decode cX6_finish 296 = .ok (.invokevirtual 151, 3) := by decide +kernel
theorem eX6_finish_299 : decode cX6_finish 299 = .ok (.aload_n 0, 1) := by decide +kernel
theorem eX6_finish_300 : decode cX6_finish 300 = .ok (.iconst 1, 1) := by decide +kernel
theorem eX6_finish_301 : decode cX6_finish 301 = .ok (.aload_n 0, 1) := by decide +kernel
theorem eX6_finish_302 : decode cX6_finish 302 = .ok (.iload_n 2, 1) := by decide +kernel
theorem eX6_finish_303 : decode cX6_finish 303 = .ok (.invokevirtual 130, 3) := by decide +kernel
theorem eX6_finish_306 : decode cX6_finish 306 = .ok (.aload_n 0, 1) := by decide +kernel
theorem eX6_finish_307 : decode cX6_finish 307 = .ok (.iload_n 3, 1) := by decide +kernel
theorem eX6_finish_308 : decode cX6_finish 308 = .ok (.invokevirtual 130, 3) := by decide +kernel
theorem eX6_finish_311 : decode cX6_finish 311 = .ok (.if_icmp .ge 7, 3) := by decide +kernel
theorem eX6_finish_314 : decode cX6_finish 314 = .ok (.iconst 1, 1) := by decide +kernel
theorem eX6_finish_315 : decode cX6_finish 315 = .ok (.goto 4, 3) := by decide +kernel
theorem eX6_finish_318 : decode cX6_finish 318 = .ok (.iconst 0, 1) := by decide +kernel
theorem eX6_finish_319 : decode cX6_finish 319 = .ok (.iconst (-1), 1) := by decide +kernel
theorem eX6_finish_320 : decode cX6_finish 320 = .ok (.invokevirtual 108, 3) := by decide +kernel
theorem eX6_finish_323 : decode cX6_finish 323 = .ok (.invokevirtual 144, 3) := by decide +kernel
theorem eX6_finish_326 : decode cX6_finish 326 = .ok (.return_, 1) := by decide +kernel
def C_X6_finish (s : ST) (p : Int) (q : Int) (u : Int) (Q : ST → Prop) : Prop := bx <| RA s → R32 p → R32 q → R32 u → q_met mX6_finish (qs layX s) [.ref 80, .int (Int32.ofInt p), .int (Int32.ofInt q), .int (Int32.ofInt u)] (PV layX Q)
theorem C_X6_finish.mono {s : ST} {p : Int} {q : Int} {u : Int} {Q Q' : ST → Prop} (h : C_X6_finish s p q u Q) (hq : ∀ s, Q s → Q' s) : C_X6_finish s p q u Q' := ⟨fun hA hrp hrq hru => q_met.mono (h.1 hA hrp hrq hru) (fun _ _ => PV.mono hq), trivial⟩
def K_X6_finish_319 (s : ST) (t1 : Int) (t3 : Int) (t4 : Int) (Q : ST → Prop) : Prop := bx <| RA s → R32 t1 → R32 t3 → R32 t4 → q_K mX6_finish (qs layX s) 0 0 319 [] [.int (Int32.ofInt t4), .int (Int32.ofInt t3), .ref 80, .int (Int32.ofInt t1), .ref 80] (q_fin mX6_finish (PV layX Q))
def K_X6_finish_292 (s : ST) (a2 : Int) (a3 : Int) (Q : ST → Prop) : Prop := bx <| RA s → R32 a2 → R32 a3 → q_K mX6_finish (qs layX s) 0 0 292 [(0, .ref 80), (2, .int (Int32.ofInt a2)), (3, .int (Int32.ofInt a3))] [] (q_fin mX6_finish (PV layX Q))
def K_X6_finish_223 (s : ST) (a2 : Int) (a3 : Int) (t1 : Int) (Q : ST → Prop) : Prop := bx <| RA s → R32 a2 → R32 a3 → R32 t1 → q_K mX6_finish (qs layX s) 0 0 223 [(0, .ref 80), (2, .int (Int32.ofInt a2)), (3, .int (Int32.ofInt a3))] [.int (Int32.ofInt t1), .ref 80] (q_fin mX6_finish (PV layX Q))
def K_X6_finish_197 (s : ST) (a2 : Int) (t1 : Int) (Q : ST → Prop) : Prop := bx <| RA s → R32 a2 → R32 t1 → q_K mX6_finish (qs layX s) 0 0 197 [(0, .ref 80), (2, .int (Int32.ofInt a2))] [.int (Int32.ofInt t1), .ref 80] (q_fin mX6_finish (PV layX Q))
def K_X6_finish_171 (s : ST) (a2 : Int) (t1 : Int) (Q : ST → Prop) : Prop := bx <| RA s → R32 a2 → R32 t1 → q_K mX6_finish (qs layX s) 0 0 171 [(0, .ref 80), (2, .int (Int32.ofInt a2))] [.int (Int32.ofInt t1), .ref 80] (q_fin mX6_finish (PV layX Q))
set_option maxRecDepth 20000 in
theorem s_X6_finish_319 {s : ST} {t1 : Int} {t3 : Int} {t4 : Int} {Q : ST → Prop} (h : RA s → R32 t1 → R32 t3 → R32 t4 → (C_X6_cell s t3 t4 (-1) (fun s1 v1 => (C_X6_leaveIf s1 t1 v1 (fun s2 => Q s2))))) : K_X6_finish_319 s t1 t3 t4 Q := by
  refine ⟨?_, trivial⟩
  intro hA hrt1 hrt3 hrt4
  have h := h hA hrt1 hrt3 hrt4
  refine q_ic (v := Int32.ofInt (-1)) eX6_finish_319 rfl ?_
  refine q_V3 (ci := 6) (n := 0) eX6_finish_320 DX6_cell lX6_108 rfl (by decide) rfl rfl rfl rfl (h.1 hA hrt3 hrt4 (r32l rfl)) ?_
  rintro _ _ ⟨s1, v1, rfl, hA1, r1, rfl, h⟩
  refine q_V2 (ci := 6) (n := 0) eX6_finish_323 DX6_leaveIf lX6_144 rfl (by decide) rfl rfl rfl rfl (h.1 hA1 hrt1 r1) ?_
  rintro _ _ ⟨s2, rfl, hA2, rfl, h⟩
  exact q_ret eX6_finish_326 rfl ⟨_, rfl, hA2, rfl, h⟩
set_option maxRecDepth 20000 in
theorem s_X6_finish_292 {s : ST} {a2 : Int} {a3 : Int} {Q : ST → Prop} (h : RA s → R32 a2 → R32 a3 → (P_X6_areNumbers s a2 a3 ∧ (P_X6_oneOf s a2 ∧ (P_X6_oneOf s a3 ∧ (((F_X6_oneOf s a3) ≤ (F_X6_oneOf s a2) → K_X6_finish_319 s (F_X6_areNumbers s a2 a3) 1 0 Q) ∧ (¬ (F_X6_oneOf s a3) ≤ (F_X6_oneOf s a2) → K_X6_finish_319 s (F_X6_areNumbers s a2 a3) 1 1 Q)))))) : K_X6_finish_292 s a2 a3 Q := by
  refine ⟨?_, trivial⟩
  intro hA hra2 hra3
  have h := h hA hra2 hra3
  refine q_aload_n eX6_finish_292 rfl ?_
  refine q_aload_n eX6_finish_293 rfl ?_
  refine q_iload_n eX6_finish_294 rfl ?_
  refine q_iload_n eX6_finish_295 rfl ?_
  have f2 := h.1
  have h := h.2
  refine q_V2 (ci := 6) (n := 0) eX6_finish_296 DX6_areNumbers lX6_151 rfl (by decide) rfl rfl rfl rfl (p_X6_areNumbers f2 hA hra2 hra3) ?_
  rintro _ _ ⟨b1, rfl, rfl⟩
  refine q_aload_n eX6_finish_299 rfl ?_
  refine q_ic (v := Int32.ofInt 1) eX6_finish_300 rfl ?_
  refine q_aload_n eX6_finish_301 rfl ?_
  refine q_iload_n eX6_finish_302 rfl ?_
  have f4 := h.1
  have h := h.2
  refine q_V1 (ci := 6) (n := 0) eX6_finish_303 DX6_oneOf lX6_130 rfl (by decide) rfl rfl rfl rfl (p_X6_oneOf f4 hA hra2) ?_
  rintro _ _ ⟨r3, rfl, rfl⟩
  refine q_aload_n eX6_finish_306 rfl ?_
  refine q_iload_n eX6_finish_307 rfl ?_
  have f6 := h.1
  have h := h.2
  refine q_V1 (ci := 6) (n := 0) eX6_finish_308 DX6_oneOf lX6_130 rfl (by decide) rfl rfl rfl rfl (p_X6_oneOf f6 hA hra3) ?_
  rintro _ _ ⟨r5, rfl, rfl⟩
  refine q_cz_ge (tgt := 318) (a := (F_X6_oneOf s a2)) (b := (F_X6_oneOf s a3)) eX6_finish_311 (by decide) (ofz r3) (ofz r5) (fun c311 => ?_) (fun c311 => ?_)
  · have h := h.1 c311
    refine q_ic (v := Int32.ofInt 0) eX6_finish_318 rfl ?_
    exact q_subL rfl (h.1 hA (r01 b1) (r32l rfl) (r32l rfl))
  · have h := h.2 c311
    refine q_ic (v := Int32.ofInt 1) eX6_finish_314 rfl ?_
    refine q_goto (tgt := 319) eX6_finish_315 (by decide) ?_
    exact q_subL rfl (h.1 hA (r01 b1) (r32l rfl) (r32l rfl))
set_option maxRecDepth 20000 in
theorem s_X6_finish_223 {s : ST} {a2 : Int} {a3 : Int} {t1 : Int} {Q : ST → Prop} (h : RA s → R32 a2 → R32 a3 → R32 t1 → (C_X6_cell s 2 a2 a3 (fun s1 v1 => (C_X6_leaveIf s1 t1 v1 (fun s2 => Q s2))))) : K_X6_finish_223 s a2 a3 t1 Q := by
  refine ⟨?_, trivial⟩
  intro hA hra2 hra3 hrt1
  have h := h hA hra2 hra3 hrt1
  refine q_aload_n eX6_finish_223 rfl ?_
  refine q_ic (v := Int32.ofInt 2) eX6_finish_224 rfl ?_
  refine q_iload_n eX6_finish_225 rfl ?_
  refine q_iload_n eX6_finish_226 rfl ?_
  refine q_V3 (ci := 6) (n := 0) eX6_finish_227 DX6_cell lX6_108 rfl (by decide) rfl rfl rfl rfl (h.1 hA (r32l rfl) hra2 hra3) ?_
  rintro _ _ ⟨s1, v1, rfl, hA1, r1, rfl, h⟩
  refine q_V2 (ci := 6) (n := 0) eX6_finish_230 DX6_leaveIf lX6_144 rfl (by decide) rfl rfl rfl rfl (h.1 hA1 hrt1 r1) ?_
  rintro _ _ ⟨s2, rfl, hA2, rfl, h⟩
  refine q_goto (tgt := 326) eX6_finish_233 (by decide) ?_
  exact q_ret eX6_finish_326 rfl ⟨_, rfl, hA2, rfl, h⟩
set_option maxRecDepth 20000 in
theorem s_X6_finish_197 {s : ST} {a2 : Int} {t1 : Int} {Q : ST → Prop} (h : RA s → R32 a2 → R32 t1 → (P_X6_twoOf s a2 ∧ (C_X6_leaveIf s t1 (F_X6_twoOf s a2) (fun s3 => Q s3)))) : K_X6_finish_197 s a2 t1 Q := by
  refine ⟨?_, trivial⟩
  intro hA hra2 hrt1
  have h := h hA hra2 hrt1
  refine q_aload_n eX6_finish_197 rfl ?_
  refine q_iload_n eX6_finish_198 rfl ?_
  have f2 := h.1
  have h := h.2
  refine q_V1 (ci := 6) (n := 0) eX6_finish_199 DX6_twoOf lX6_124 rfl (by decide) rfl rfl rfl rfl (p_X6_twoOf f2 hA hra2) ?_
  rintro _ _ ⟨r1, rfl, rfl⟩
  refine q_V2 (ci := 6) (n := 0) eX6_finish_202 DX6_leaveIf lX6_144 rfl (by decide) rfl rfl rfl rfl (h.1 hA hrt1 r1) ?_
  rintro _ _ ⟨s3, rfl, hA3, rfl, h⟩
  refine q_goto (tgt := 326) eX6_finish_205 (by decide) ?_
  exact q_ret eX6_finish_326 rfl ⟨_, rfl, hA3, rfl, h⟩
set_option maxRecDepth 20000 in
theorem s_X6_finish_171 {s : ST} {a2 : Int} {t1 : Int} {Q : ST → Prop} (h : RA s → R32 a2 → R32 t1 → (P_X6_oneOf s a2 ∧ (C_X6_leaveIf s t1 (F_X6_oneOf s a2) (fun s3 => Q s3)))) : K_X6_finish_171 s a2 t1 Q := by
  refine ⟨?_, trivial⟩
  intro hA hra2 hrt1
  have h := h hA hra2 hrt1
  refine q_aload_n eX6_finish_171 rfl ?_
  refine q_iload_n eX6_finish_172 rfl ?_
  have f2 := h.1
  have h := h.2
  refine q_V1 (ci := 6) (n := 0) eX6_finish_173 DX6_oneOf lX6_130 rfl (by decide) rfl rfl rfl rfl (p_X6_oneOf f2 hA hra2) ?_
  rintro _ _ ⟨r1, rfl, rfl⟩
  refine q_V2 (ci := 6) (n := 0) eX6_finish_176 DX6_leaveIf lX6_144 rfl (by decide) rfl rfl rfl rfl (h.1 hA hrt1 r1) ?_
  rintro _ _ ⟨s3, rfl, hA3, rfl, h⟩
  refine q_goto (tgt := 326) eX6_finish_179 (by decide) ?_
  exact q_ret eX6_finish_326 rfl ⟨_, rfl, hA3, rfl, h⟩
set_option maxRecDepth 20000 in
theorem s_X6_finish {s : ST} {p : Int} {q : Int} {u : Int} {Q : ST → Prop} (h : RA s → R32 p → R32 q → R32 u → (P_X9_sortOf 2 s p ∧ (((F_X9_sortOf 2 s p) = 0 → (((0 : Int) ≤ p ∧ p < 40) ∧ (C_X6_cell s 0 (s.1 8 p) (-1) (fun s4 v4 => (C_X6_leave s4 v4 (fun s5 => Q s5)))))) ∧ ((F_X9_sortOf 2 s p) = 1 → (((0 : Int) ≤ p ∧ p < 40) ∧ (C_X6_cell s 1 (s.1 8 p) (-1) (fun s7 v7 => (C_X6_leave s7 v7 (fun s8 => Q s8)))))) ∧ ((F_X9_sortOf 2 s p) = 2 → K_X6_finish_292 s q u Q) ∧ ((F_X9_sortOf 2 s p) = 3 → K_X6_finish_292 s q u Q) ∧ ((F_X9_sortOf 2 s p) = 4 → K_X6_finish_292 s q u Q) ∧ ((F_X9_sortOf 2 s p) = 5 → K_X6_finish_292 s q u Q) ∧ ((F_X9_sortOf 2 s p) = 6 → K_X6_finish_292 s q u Q) ∧ ((F_X9_sortOf 2 s p) = 7 → (C_X6_cell s 3 q u (fun s9 v9 => (C_X6_leave s9 v9 (fun s10 => Q s10))))) ∧ ((F_X9_sortOf 2 s p) = 8 → (P_X6_headOf s q ∧ ((¬ (F_X6_headOf s q) = 3 → K_X6_finish_171 s q 0 Q) ∧ ((F_X6_headOf s q) = 3 → K_X6_finish_171 s q 1 Q)))) ∧ ((F_X9_sortOf 2 s p) = 9 → (P_X6_headOf s q ∧ ((¬ (F_X6_headOf s q) = 3 → K_X6_finish_197 s q 0 Q) ∧ ((F_X6_headOf s q) = 3 → K_X6_finish_197 s q 1 Q)))) ∧ ((F_X9_sortOf 2 s p) = 10 → (C_X6_cell s 2 (-1) (-1) (fun s15 v15 => (C_X6_leave s15 v15 (fun s16 => Q s16))))) ∧ ((F_X9_sortOf 2 s p) = 11 → (P_X6_headOf s u ∧ ((¬ (F_X6_headOf s u) = 2 → K_X6_finish_223 s q u 0 Q) ∧ ((F_X6_headOf s u) = 2 → K_X6_finish_223 s q u 1 Q)))) ∧ ((F_X9_sortOf 2 s p) = 12 → (P_X6_oneOf s q ∧ (C_X6_leaveRow s q (F_X6_oneOf s q) (fun s21 => Q s21)))) ∧ ((F_X9_sortOf 2 s p) = 13 → (P_X6_twoOf s q ∧ (C_X6_leaveRow s q (F_X6_twoOf s q) (fun s24 => Q s24)))) ∧ ((F_X9_sortOf 2 s p) = 14 → (P_X6_areNumbers s q u ∧ (P_X6_oneOf s q ∧ (P_X6_oneOf s u ∧ (C_X6_cell s 0 (w32 ((F_X6_oneOf s q) + (F_X6_oneOf s u))) (-1) (fun s31 v31 => (C_X6_leaveIf s31 (F_X6_areNumbers s q u) v31 (fun s32 => Q s32)))))))) ∧ (((F_X9_sortOf 2 s p) < 0 ∨ 14 < (F_X9_sortOf 2 s p)) → K_X6_finish_292 s q u Q)))) : C_X6_finish s p q u Q := by
  refine ⟨?_, trivial⟩
  intro hA hrp hrq hru
  have h := h hA hrp hrq hru
  refine q_enter (by decide) (Nat.le_of_ble_eq_true rfl) ?_
  refine q_aload_n eX6_finish_0 rfl ?_
  refine q_getR (c := 6) (n := 0) (k := 3) (a := 2) eX6_finish_1 rfl (by decide) (by decide) fX6_37 rfl rfl ?_
  refine q_iload_n eX6_finish_4 rfl ?_
  have f2 := h.1
  have h := h.2
  refine q_V1 (ci := 9) (n := 0) eX6_finish_5 DX9_sortOf lX6_87 rfl (by decide) rfl rfl rfl rfl (p_X9_sortOf f2 (by decide) hA hrp) ?_
  rintro _ _ ⟨r1, rfl, rfl⟩
  refine q_tab15 84 106 292 292 292 292 292 142 156 182 128 208 236 249 262 292 eX6_finish_8 rfl rfl (by decide) (z := (F_X9_sortOf 2 s p)) (ofz r1) (fun c8 => ?_) (fun c8 => ?_) (fun c8 => ?_) (fun c8 => ?_) (fun c8 => ?_) (fun c8 => ?_) (fun c8 => ?_) (fun c8 => ?_) (fun c8 => ?_) (fun c8 => ?_) (fun c8 => ?_) (fun c8 => ?_) (fun c8 => ?_) (fun c8 => ?_) (fun c8 => ?_) (fun c8 => ?_)
  · have h := h.1 c8
    refine q_aload_n eX6_finish_84 rfl ?_
    refine q_aload_n eX6_finish_85 rfl ?_
    refine q_ic (v := Int32.ofInt 0) eX6_finish_86 rfl ?_
    refine q_aload_n eX6_finish_87 rfl ?_
    refine q_getR (c := 6) (n := 0) (k := 3) (a := 2) eX6_finish_88 rfl (by decide) (by decide) fX6_37 rfl rfl ?_
    refine q_getR (c := 9) (n := 0) (k := 8) (a := 8) eX6_finish_91 rfl (by decide) (by decide) fX6_142 rfl rfl ?_
    refine q_iload_n eX6_finish_94 rfl ?_
    have f3 := h.1
    have h := h.2
    refine z_iald (n := 40) eX6_finish_95 rfl (ofz hrp) f3 ?_
    refine q_topI (v := Int32.ofInt (s.1 8 p)) rfl ?_
    refine q_ic (v := Int32.ofInt (-1)) eX6_finish_96 rfl ?_
    refine q_V3 (ci := 6) (n := 0) eX6_finish_97 DX6_cell lX6_108 rfl (by decide) rfl rfl rfl rfl (h.1 hA (r32l rfl) (hA _ _) (r32l rfl)) ?_
    rintro _ _ ⟨s4, v4, rfl, hA4, r4, rfl, h⟩
    refine q_V1 (ci := 6) (n := 0) eX6_finish_100 DX6_leave lX6_112 rfl (by decide) rfl rfl rfl rfl (h.1 hA4 r4) ?_
    rintro _ _ ⟨s5, rfl, hA5, rfl, h⟩
    refine q_goto (tgt := 326) eX6_finish_103 (by decide) ?_
    exact q_ret eX6_finish_326 rfl ⟨_, rfl, hA5, rfl, h⟩
  · have h := h.2.1 c8
    refine q_aload_n eX6_finish_106 rfl ?_
    refine q_aload_n eX6_finish_107 rfl ?_
    refine q_ic (v := Int32.ofInt 1) eX6_finish_108 rfl ?_
    refine q_aload_n eX6_finish_109 rfl ?_
    refine q_getR (c := 6) (n := 0) (k := 3) (a := 2) eX6_finish_110 rfl (by decide) (by decide) fX6_37 rfl rfl ?_
    refine q_getR (c := 9) (n := 0) (k := 8) (a := 8) eX6_finish_113 rfl (by decide) (by decide) fX6_142 rfl rfl ?_
    refine q_iload_n eX6_finish_116 rfl ?_
    have f6 := h.1
    have h := h.2
    refine z_iald (n := 40) eX6_finish_117 rfl (ofz hrp) f6 ?_
    refine q_topI (v := Int32.ofInt (s.1 8 p)) rfl ?_
    refine q_ic (v := Int32.ofInt (-1)) eX6_finish_118 rfl ?_
    refine q_V3 (ci := 6) (n := 0) eX6_finish_119 DX6_cell lX6_108 rfl (by decide) rfl rfl rfl rfl (h.1 hA (r32l rfl) (hA _ _) (r32l rfl)) ?_
    rintro _ _ ⟨s7, v7, rfl, hA7, r7, rfl, h⟩
    refine q_V1 (ci := 6) (n := 0) eX6_finish_122 DX6_leave lX6_112 rfl (by decide) rfl rfl rfl rfl (h.1 hA7 r7) ?_
    rintro _ _ ⟨s8, rfl, hA8, rfl, h⟩
    refine q_goto (tgt := 326) eX6_finish_125 (by decide) ?_
    exact q_ret eX6_finish_326 rfl ⟨_, rfl, hA8, rfl, h⟩
  · have h := h.2.2.1 c8
    exact q_subL rfl (h.1 hA hrq hru)
  · have h := h.2.2.2.1 c8
    exact q_subL rfl (h.1 hA hrq hru)
  · have h := h.2.2.2.2.1 c8
    exact q_subL rfl (h.1 hA hrq hru)
  · have h := h.2.2.2.2.2.1 c8
    exact q_subL rfl (h.1 hA hrq hru)
  · have h := h.2.2.2.2.2.2.1 c8
    exact q_subL rfl (h.1 hA hrq hru)
  · have h := h.2.2.2.2.2.2.2.1 c8
    refine q_aload_n eX6_finish_142 rfl ?_
    refine q_aload_n eX6_finish_143 rfl ?_
    refine q_ic (v := Int32.ofInt 3) eX6_finish_144 rfl ?_
    refine q_iload_n eX6_finish_145 rfl ?_
    refine q_iload_n eX6_finish_146 rfl ?_
    refine q_V3 (ci := 6) (n := 0) eX6_finish_147 DX6_cell lX6_108 rfl (by decide) rfl rfl rfl rfl (h.1 hA (r32l rfl) hrq hru) ?_
    rintro _ _ ⟨s9, v9, rfl, hA9, r9, rfl, h⟩
    refine q_V1 (ci := 6) (n := 0) eX6_finish_150 DX6_leave lX6_112 rfl (by decide) rfl rfl rfl rfl (h.1 hA9 r9) ?_
    rintro _ _ ⟨s10, rfl, hA10, rfl, h⟩
    refine q_goto (tgt := 326) eX6_finish_153 (by decide) ?_
    exact q_ret eX6_finish_326 rfl ⟨_, rfl, hA10, rfl, h⟩
  · have h := h.2.2.2.2.2.2.2.2.1 c8
    refine q_aload_n eX6_finish_156 rfl ?_
    refine q_aload_n eX6_finish_157 rfl ?_
    refine q_iload_n eX6_finish_158 rfl ?_
    have f12 := h.1
    have h := h.2
    refine q_V1 (ci := 6) (n := 0) eX6_finish_159 DX6_headOf lX6_71 rfl (by decide) rfl rfl rfl rfl (p_X6_headOf f12 hA hrq) ?_
    rintro _ _ ⟨r11, rfl, rfl⟩
    refine q_ic (v := Int32.ofInt 3) eX6_finish_162 rfl ?_
    refine q_cz_ne (tgt := 170) (a := (F_X6_headOf s q)) (b := 3) eX6_finish_163 (by decide) (ofz r11) (ofz (r32l rfl)) (fun c163 => ?_) (fun c163 => ?_)
    · have h := h.1 c163
      refine q_ic (v := Int32.ofInt 0) eX6_finish_170 rfl ?_
      exact q_subL rfl (h.1 hA hrq (r32l rfl))
    · have h := h.2 c163
      refine q_ic (v := Int32.ofInt 1) eX6_finish_166 rfl ?_
      refine q_goto (tgt := 171) eX6_finish_167 (by decide) ?_
      exact q_subL rfl (h.1 hA hrq (r32l rfl))
  · have h := h.2.2.2.2.2.2.2.2.2.1 c8
    refine q_aload_n eX6_finish_182 rfl ?_
    refine q_aload_n eX6_finish_183 rfl ?_
    refine q_iload_n eX6_finish_184 rfl ?_
    have f14 := h.1
    have h := h.2
    refine q_V1 (ci := 6) (n := 0) eX6_finish_185 DX6_headOf lX6_71 rfl (by decide) rfl rfl rfl rfl (p_X6_headOf f14 hA hrq) ?_
    rintro _ _ ⟨r13, rfl, rfl⟩
    refine q_ic (v := Int32.ofInt 3) eX6_finish_188 rfl ?_
    refine q_cz_ne (tgt := 196) (a := (F_X6_headOf s q)) (b := 3) eX6_finish_189 (by decide) (ofz r13) (ofz (r32l rfl)) (fun c189 => ?_) (fun c189 => ?_)
    · have h := h.1 c189
      refine q_ic (v := Int32.ofInt 0) eX6_finish_196 rfl ?_
      exact q_subL rfl (h.1 hA hrq (r32l rfl))
    · have h := h.2 c189
      refine q_ic (v := Int32.ofInt 1) eX6_finish_192 rfl ?_
      refine q_goto (tgt := 197) eX6_finish_193 (by decide) ?_
      exact q_subL rfl (h.1 hA hrq (r32l rfl))
  · have h := h.2.2.2.2.2.2.2.2.2.2.1 c8
    refine q_aload_n eX6_finish_128 rfl ?_
    refine q_aload_n eX6_finish_129 rfl ?_
    refine q_ic (v := Int32.ofInt 2) eX6_finish_130 rfl ?_
    refine q_ic (v := Int32.ofInt (-1)) eX6_finish_131 rfl ?_
    refine q_ic (v := Int32.ofInt (-1)) eX6_finish_132 rfl ?_
    refine q_V3 (ci := 6) (n := 0) eX6_finish_133 DX6_cell lX6_108 rfl (by decide) rfl rfl rfl rfl (h.1 hA (r32l rfl) (r32l rfl) (r32l rfl)) ?_
    rintro _ _ ⟨s15, v15, rfl, hA15, r15, rfl, h⟩
    refine q_V1 (ci := 6) (n := 0) eX6_finish_136 DX6_leave lX6_112 rfl (by decide) rfl rfl rfl rfl (h.1 hA15 r15) ?_
    rintro _ _ ⟨s16, rfl, hA16, rfl, h⟩
    refine q_goto (tgt := 326) eX6_finish_139 (by decide) ?_
    exact q_ret eX6_finish_326 rfl ⟨_, rfl, hA16, rfl, h⟩
  · have h := h.2.2.2.2.2.2.2.2.2.2.2.1 c8
    refine q_aload_n eX6_finish_208 rfl ?_
    refine q_aload_n eX6_finish_209 rfl ?_
    refine q_iload_n eX6_finish_210 rfl ?_
    have f18 := h.1
    have h := h.2
    refine q_V1 (ci := 6) (n := 0) eX6_finish_211 DX6_headOf lX6_71 rfl (by decide) rfl rfl rfl rfl (p_X6_headOf f18 hA hru) ?_
    rintro _ _ ⟨r17, rfl, rfl⟩
    refine q_ic (v := Int32.ofInt 2) eX6_finish_214 rfl ?_
    refine q_cz_ne (tgt := 222) (a := (F_X6_headOf s u)) (b := 2) eX6_finish_215 (by decide) (ofz r17) (ofz (r32l rfl)) (fun c215 => ?_) (fun c215 => ?_)
    · have h := h.1 c215
      refine q_ic (v := Int32.ofInt 0) eX6_finish_222 rfl ?_
      exact q_subL rfl (h.1 hA hrq hru (r32l rfl))
    · have h := h.2 c215
      refine q_ic (v := Int32.ofInt 1) eX6_finish_218 rfl ?_
      refine q_goto (tgt := 223) eX6_finish_219 (by decide) ?_
      exact q_subL rfl (h.1 hA hrq hru (r32l rfl))
  · have h := h.2.2.2.2.2.2.2.2.2.2.2.2.1 c8
    refine q_aload_n eX6_finish_236 rfl ?_
    refine q_iload_n eX6_finish_237 rfl ?_
    refine q_aload_n eX6_finish_238 rfl ?_
    refine q_iload_n eX6_finish_239 rfl ?_
    have f20 := h.1
    have h := h.2
    refine q_V1 (ci := 6) (n := 0) eX6_finish_240 DX6_oneOf lX6_130 rfl (by decide) rfl rfl rfl rfl (p_X6_oneOf f20 hA hrq) ?_
    rintro _ _ ⟨r19, rfl, rfl⟩
    refine q_V2 (ci := 6) (n := 0) eX6_finish_243 DX6_leaveRow lX6_148 rfl (by decide) rfl rfl rfl rfl (h.1 hA hrq r19) ?_
    rintro _ _ ⟨s21, rfl, hA21, rfl, h⟩
    refine q_goto (tgt := 326) eX6_finish_246 (by decide) ?_
    exact q_ret eX6_finish_326 rfl ⟨_, rfl, hA21, rfl, h⟩
  · have h := h.2.2.2.2.2.2.2.2.2.2.2.2.2.1 c8
    refine q_aload_n eX6_finish_249 rfl ?_
    refine q_iload_n eX6_finish_250 rfl ?_
    refine q_aload_n eX6_finish_251 rfl ?_
    refine q_iload_n eX6_finish_252 rfl ?_
    have f23 := h.1
    have h := h.2
    refine q_V1 (ci := 6) (n := 0) eX6_finish_253 DX6_twoOf lX6_124 rfl (by decide) rfl rfl rfl rfl (p_X6_twoOf f23 hA hrq) ?_
    rintro _ _ ⟨r22, rfl, rfl⟩
    refine q_V2 (ci := 6) (n := 0) eX6_finish_256 DX6_leaveRow lX6_148 rfl (by decide) rfl rfl rfl rfl (h.1 hA hrq r22) ?_
    rintro _ _ ⟨s24, rfl, hA24, rfl, h⟩
    refine q_goto (tgt := 326) eX6_finish_259 (by decide) ?_
    exact q_ret eX6_finish_326 rfl ⟨_, rfl, hA24, rfl, h⟩
  · have h := h.2.2.2.2.2.2.2.2.2.2.2.2.2.2.1 c8
    refine q_aload_n eX6_finish_262 rfl ?_
    refine q_aload_n eX6_finish_263 rfl ?_
    refine q_iload_n eX6_finish_264 rfl ?_
    refine q_iload_n eX6_finish_265 rfl ?_
    have f26 := h.1
    have h := h.2
    refine q_V2 (ci := 6) (n := 0) eX6_finish_266 DX6_areNumbers lX6_151 rfl (by decide) rfl rfl rfl rfl (p_X6_areNumbers f26 hA hrq hru) ?_
    rintro _ _ ⟨b25, rfl, rfl⟩
    refine q_aload_n eX6_finish_269 rfl ?_
    refine q_ic (v := Int32.ofInt 0) eX6_finish_270 rfl ?_
    refine q_aload_n eX6_finish_271 rfl ?_
    refine q_iload_n eX6_finish_272 rfl ?_
    have f28 := h.1
    have h := h.2
    refine q_V1 (ci := 6) (n := 0) eX6_finish_273 DX6_oneOf lX6_130 rfl (by decide) rfl rfl rfl rfl (p_X6_oneOf f28 hA hrq) ?_
    rintro _ _ ⟨r27, rfl, rfl⟩
    refine q_aload_n eX6_finish_276 rfl ?_
    refine q_iload_n eX6_finish_277 rfl ?_
    have f30 := h.1
    have h := h.2
    refine q_V1 (ci := 6) (n := 0) eX6_finish_278 DX6_oneOf lX6_130 rfl (by decide) rfl rfl rfl rfl (p_X6_oneOf f30 hA hru) ?_
    rintro _ _ ⟨r29, rfl, rfl⟩
    refine z_iadd eX6_finish_281 ?_
    refine q_topI (v := Int32.ofInt (w32 ((F_X6_oneOf s q) + (F_X6_oneOf s u)))) (w32_of _).symm ?_
    refine q_ic (v := Int32.ofInt (-1)) eX6_finish_282 rfl ?_
    refine q_V3 (ci := 6) (n := 0) eX6_finish_283 DX6_cell lX6_108 rfl (by decide) rfl rfl rfl rfl (h.1 hA (r32l rfl) (w32_r _) (r32l rfl)) ?_
    rintro _ _ ⟨s31, v31, rfl, hA31, r31, rfl, h⟩
    refine q_V2 (ci := 6) (n := 0) eX6_finish_286 DX6_leaveIf lX6_144 rfl (by decide) rfl rfl rfl rfl (h.1 hA31 (r01 b25) r31) ?_
    rintro _ _ ⟨s32, rfl, hA32, rfl, h⟩
    refine q_goto (tgt := 326) eX6_finish_289 (by decide) ?_
    exact q_ret eX6_finish_326 rfl ⟨_, rfl, hA32, rfl, h⟩
  · have h := h.2.2.2.2.2.2.2.2.2.2.2.2.2.2.2 c8
    exact q_subL rfl (h.1 hA hrq hru)
theorem eX6_stepParts_0 : decode cX6_stepParts 0 = .ok (.aload_n 0, 1) := by decide +kernel
theorem eX6_stepParts_1 : decode cX6_stepParts 1 = .ok (.getfield 37, 3) := by decide +kernel
theorem eX6_stepParts_4 : decode cX6_stepParts 4 = .ok (.iload_n 2, 1) := by decide +kernel
theorem eX6_stepParts_5 : decode cX6_stepParts 5 = .ok (.invokevirtual 136, 3) := by decide +kernel
theorem eX6_stepParts_8 : decode cX6_stepParts 8 = .ok (.istore 5, 2) := by decide +kernel
theorem eX6_stepParts_10 : decode cX6_stepParts 10 = .ok (.iload 4, 2) := by decide +kernel
theorem eX6_stepParts_12 : decode cX6_stepParts 12 = .ok (.iload 5, 2) := by decide +kernel
theorem eX6_stepParts_14 : decode cX6_stepParts 14 = .ok (.if_icmp .ge 15, 3) := by decide +kernel
theorem eX6_stepParts_17 : decode cX6_stepParts 17 = .ok (.aload_n 0, 1) := by decide +kernel
theorem eX6_stepParts_18 : decode cX6_stepParts 18 = .ok (.iload_n 1, 1) := by decide +kernel
theorem eX6_stepParts_19 : decode cX6_stepParts 19 = .ok (.iload_n 2, 1) := by decide +kernel
theorem eX6_stepParts_20 : decode cX6_stepParts 20 = .ok (.iload_n 3, 1) := by decide +kernel
theorem eX6_stepParts_21 : decode cX6_stepParts 21 = .ok (.iload 4, 2) := by decide +kernel
theorem eX6_stepParts_23 : decode cX6_stepParts 23 = .ok (.invokevirtual 133, 3) := by decide +kernel
theorem eX6_stepParts_26 : decode cX6_stepParts 26 = .ok (.goto 31, 3) := by decide +kernel
theorem eX6_stepParts_29 : decode cX6_stepParts 29 = .ok (.aload_n 0, 1) := by decide +kernel
theorem eX6_stepParts_30 : decode cX6_stepParts 30 = .ok (.iload_n 2, 1) := by decide +kernel
theorem eX6_stepParts_31 : decode cX6_stepParts 31 = .ok (.iload 5, 2) := by decide +kernel
theorem eX6_stepParts_33 : decode cX6_stepParts 33 = .ok (.iconst 2, 1) := by decide +kernel
theorem eX6_stepParts_34 : decode cX6_stepParts 34 = .ok (.if_icmp .ne 12, 3) := by decide +kernel
theorem eX6_stepParts_37 : decode cX6_stepParts 37 = .ok (.aload_n 0, 1) := by decide +kernel
theorem eX6_stepParts_38 : decode cX6_stepParts 38 = .ok (.getfield 34, 3) := by decide +kernel
theorem eX6_stepParts_41 : decode cX6_stepParts 41 = .ok (.iload_n 1, 1) := by decide +kernel
theorem eX6_stepParts_42 : decode cX6_stepParts 42 = .ok (.iaload, 1) := by decide +kernel
theorem eX6_stepParts_43 : decode cX6_stepParts 43 = .ok (.goto 7, 3) := by decide +kernel
theorem eX6_stepParts_46 : decode cX6_stepParts 46 = .ok (.aload_n 0, 1) := by decide +kernel
theorem eX6_stepParts_47 : decode cX6_stepParts 47 = .ok (.getfield 50, 3) := by decide +kernel
theorem eX6_stepParts_50 : decode cX6_stepParts 50 = .ok (.aload_n 0, 1) := by decide +kernel
theorem eX6_stepParts_51 : decode cX6_stepParts 51 = .ok (.getfield 50, 3) := by decide +kernel
theorem eX6_stepParts_54 : decode cX6_stepParts 54 = .ok (.invokevirtual 139, 3) := by decide +kernel
theorem eX6_stepParts_57 : decode cX6_stepParts 57 = .ok (.return_, 1) := by decide +kernel
def C_X6_stepParts (s : ST) (p : Int) (q : Int) (u : Int) (w : Int) (Q : ST → Prop) : Prop := bx <| RA s → R32 p → R32 q → R32 u → R32 w → q_met mX6_stepParts (qs layX s) [.ref 80, .int (Int32.ofInt p), .int (Int32.ofInt q), .int (Int32.ofInt u), .int (Int32.ofInt w)] (PV layX Q)
theorem C_X6_stepParts.mono {s : ST} {p : Int} {q : Int} {u : Int} {w : Int} {Q Q' : ST → Prop} (h : C_X6_stepParts s p q u w Q) (hq : ∀ s, Q s → Q' s) : C_X6_stepParts s p q u w Q' := ⟨fun hA hrp hrq hru hrw => q_met.mono (h.1 hA hrp hrq hru hrw) (fun _ _ => PV.mono hq), trivial⟩
def K_X6_stepParts_50 (s : ST) (t1 : Int) (t2 : Int) (Q : ST → Prop) : Prop := bx <| RA s → R32 t1 → R32 t2 → q_K mX6_stepParts (qs layX s) 0 0 50 [(0, .ref 80)] [.int (Int32.ofInt t2), .int (Int32.ofInt t1), .ref 80] (q_fin mX6_stepParts (PV layX Q))
set_option maxRecDepth 20000 in
theorem s_X6_stepParts_50 {s : ST} {t1 : Int} {t2 : Int} {Q : ST → Prop} (h : RA s → R32 t1 → R32 t2 → (C_X6_finish s t1 t2 (s.1 80 13) (fun s1 => Q s1))) : K_X6_stepParts_50 s t1 t2 Q := by
  refine ⟨?_, trivial⟩
  intro hA hrt1 hrt2
  have h := h hA hrt1 hrt2
  refine q_aload_n eX6_stepParts_50 rfl ?_
  refine q_getf (c := 6) (n := 0) (k := 13) (v := .int (Int32.ofInt (s.1 80 13))) eX6_stepParts_51 rfl (by decide) (by decide) fX6_50 rfl ?_
  refine q_V3 (ci := 6) (n := 0) eX6_stepParts_54 DX6_finish lX6_139 rfl (by decide) rfl rfl rfl rfl (h.1 hA hrt1 hrt2 (hA _ _)) ?_
  rintro _ _ ⟨s1, rfl, hA1, rfl, h⟩
  exact q_ret eX6_stepParts_57 rfl ⟨_, rfl, hA1, rfl, h⟩
set_option maxRecDepth 20000 in
theorem s_X6_stepParts {s : ST} {p : Int} {q : Int} {u : Int} {w : Int} {Q : ST → Prop} (h : RA s → R32 p → R32 q → R32 u → R32 w → (P_X9_arityOf 2 s q ∧ (((F_X9_arityOf 2 s q) ≤ w → ((¬ (F_X9_arityOf 2 s q) = 2 → K_X6_stepParts_50 s q (s.1 80 13) Q) ∧ ((F_X9_arityOf 2 s q) = 2 → (((0 : Int) ≤ p ∧ p < 151) ∧ K_X6_stepParts_50 s q (s.1 87 p) Q)))) ∧ (¬ (F_X9_arityOf 2 s q) ≤ w → (C_X6_enterPart s p q u w (fun s4 => Q s4)))))) : C_X6_stepParts s p q u w Q := by
  refine ⟨?_, trivial⟩
  intro hA hrp hrq hru hrw
  have h := h hA hrp hrq hru hrw
  refine q_enter (by decide) (Nat.le_of_ble_eq_true rfl) ?_
  refine q_aload_n eX6_stepParts_0 rfl ?_
  refine q_getR (c := 6) (n := 0) (k := 3) (a := 2) eX6_stepParts_1 rfl (by decide) (by decide) fX6_37 rfl rfl ?_
  refine q_iload_n eX6_stepParts_4 rfl ?_
  have f2 := h.1
  have h := h.2
  refine q_V1 (ci := 9) (n := 0) eX6_stepParts_5 DX9_arityOf lX6_136 rfl (by decide) rfl rfl rfl rfl (p_X9_arityOf f2 (by decide) hA hrq) ?_
  rintro _ _ ⟨r1, rfl, rfl⟩
  refine q_istore eX6_stepParts_8 (Nat.le_of_ble_eq_true rfl) ?_
  refine q_iload eX6_stepParts_10 rfl ?_
  refine q_iload eX6_stepParts_12 rfl ?_
  refine q_cz_ge (tgt := 29) (a := w) (b := (F_X9_arityOf 2 s q)) eX6_stepParts_14 (by decide) (ofz hrw) (ofz r1) (fun c14 => ?_) (fun c14 => ?_)
  · have h := h.1 c14
    refine q_aload_n eX6_stepParts_29 rfl ?_
    refine q_iload_n eX6_stepParts_30 rfl ?_
    refine q_iload eX6_stepParts_31 rfl ?_
    refine q_ic (v := Int32.ofInt 2) eX6_stepParts_33 rfl ?_
    refine q_cz_ne (tgt := 46) (a := (F_X9_arityOf 2 s q)) (b := 2) eX6_stepParts_34 (by decide) (ofz r1) (ofz (r32l rfl)) (fun c34 => ?_) (fun c34 => ?_)
    · have h := h.1 c34
      refine q_aload_n eX6_stepParts_46 rfl ?_
      refine q_getf (c := 6) (n := 0) (k := 13) (v := .int (Int32.ofInt (s.1 80 13))) eX6_stepParts_47 rfl (by decide) (by decide) fX6_50 rfl ?_
      exact q_subL rfl (h.1 hA hrq (hA _ _))
    · have h := h.2 c34
      refine q_aload_n eX6_stepParts_37 rfl ?_
      refine q_getR (c := 6) (n := 0) (k := 11) (a := 87) eX6_stepParts_38 rfl (by decide) (by decide) fX6_34 rfl rfl ?_
      refine q_iload_n eX6_stepParts_41 rfl ?_
      have f3 := h.1
      have h := h.2
      refine z_iald (n := 151) eX6_stepParts_42 rfl (ofz hrp) f3 ?_
      refine q_topI (v := Int32.ofInt (s.1 87 p)) rfl ?_
      refine q_goto (tgt := 50) eX6_stepParts_43 (by decide) ?_
      exact q_subL rfl (h.1 hA hrq (hA _ _))
  · have h := h.2 c14
    refine q_aload_n eX6_stepParts_17 rfl ?_
    refine q_iload_n eX6_stepParts_18 rfl ?_
    refine q_iload_n eX6_stepParts_19 rfl ?_
    refine q_iload_n eX6_stepParts_20 rfl ?_
    refine q_iload eX6_stepParts_21 rfl ?_
    refine q_V4 (ci := 6) (n := 0) eX6_stepParts_23 DX6_enterPart lX6_133 rfl (by decide) rfl rfl rfl rfl (h.1 hA hrp hrq hru hrw) ?_
    rintro _ _ ⟨s4, rfl, hA4, rfl, h⟩
    refine q_goto (tgt := 57) eX6_stepParts_26 (by decide) ?_
    exact q_ret eX6_stepParts_57 rfl ⟨_, rfl, hA4, rfl, h⟩
theorem eX6_step_0 : decode cX6_step 0 = .ok (.iload_n 1, 1) := by decide +kernel
theorem eX6_step_1 : decode cX6_step 1 = .ok (.ifCond .lt 10, 3) := by decide +kernel
theorem eX6_step_4 : decode cX6_step 4 = .ok (.iload_n 1, 1) := by decide +kernel
theorem eX6_step_5 : decode cX6_step 5 = .ok (.sipush 151, 3) := by decide +kernel
theorem eX6_step_8 : decode cX6_step 8 = .ok (.if_icmp .lt 4, 3) := by decide +kernel
theorem eX6_step_11 : decode cX6_step 11 = .ok (.return_, 1) := by decide +kernel
theorem eX6_step_12 : decode cX6_step 12 = .ok (.aload_n 0, 1) := by decide +kernel
theorem eX6_step_13 : decode cX6_step 13 = .ok (.getfield 25, 3) := by decide +kernel
theorem eX6_step_16 : decode cX6_step 16 = .ok (.iload_n 1, 1) := by decide +kernel
theorem eX6_step_17 : decode cX6_step 17 = .ok (.iaload, 1) := by decide +kernel
theorem eX6_step_18 : decode cX6_step 18 = .ok (.istore_n 2, 1) := by decide +kernel
theorem eX6_step_19 : decode cX6_step 19 = .ok (.aload_n 0, 1) := by decide +kernel
theorem eX6_step_20 : decode cX6_step 20 = .ok (.getfield 28, 3) := by decide +kernel
theorem eX6_step_23 : decode cX6_step 23 = .ok (.iload_n 1, 1) := by decide +kernel
theorem eX6_step_24 : decode cX6_step 24 = .ok (.iaload, 1) := by decide +kernel
theorem eX6_step_25 : decode cX6_step 25 = .ok (.istore_n 3, 1) := by decide +kernel
theorem eX6_step_26 : decode cX6_step 26 = .ok (.aload_n 0, 1) := by decide +kernel
theorem eX6_step_27 : decode cX6_step 27 = .ok (.getfield 31, 3) := by decide +kernel
theorem eX6_step_30 : decode cX6_step 30 = .ok (.iload_n 1, 1) := by decide +kernel
theorem eX6_step_31 : decode cX6_step 31 = .ok (.iaload, 1) := by decide +kernel
theorem eX6_step_32 : decode cX6_step 32 = .ok (.istore 4, 2) := by decide +kernel
theorem eX6_step_34 : decode cX6_step 34 = .ok (.aload_n 0, 1) := by decide +kernel
theorem eX6_step_35 : decode cX6_step 35 = .ok (.getfield 31, 3) := by decide +kernel
theorem eX6_step_38 : decode cX6_step 38 = .ok (.iload_n 1, 1) := by decide +kernel
theorem eX6_step_39 : decode cX6_step 39 = .ok (.dup2, 1) := by decide +kernel
theorem eX6_step_40 : decode cX6_step 40 = .ok (.iaload, 1) := by decide +kernel
theorem eX6_step_41 : decode cX6_step 41 = .ok (.iconst 1, 1) := by decide +kernel
theorem eX6_step_42 : decode cX6_step 42 = .ok (.iadd, 1) := by decide +kernel
theorem eX6_step_43 : decode cX6_step 43 = .ok (.iastore, 1) := by decide +kernel
theorem eX6_step_44 : decode cX6_step 44 = .ok (.aload_n 0, 1) := by decide +kernel
theorem eX6_step_45 : decode cX6_step 45 = .ok (.getfield 37, 3) := by decide +kernel
theorem eX6_step_48 : decode cX6_step 48 = .ok (.iload_n 2, 1) := by decide +kernel
theorem eX6_step_49 : decode cX6_step 49 = .ok (.invokevirtual 87, 3) := by decide +kernel
theorem eX6_step_52 : decode cX6_step 52 = .ok (.tableswitch 162 2 16 #[76, 148, 87, 125, 136, 162, 162, 162, 162, 162, 162, 162, 162, 162, 106], 76) := by decide +kernel
theorem eX6_step_128 : decode cX6_step 128 = .ok (.aload_n 0, 1) := by decide +kernel
theorem eX6_step_129 : decode cX6_step 129 = .ok (.iload_n 2, 1) := by decide +kernel
theorem eX6_step_130 : decode cX6_step 130 = .ok (.iload_n 3, 1) := by decide +kernel
theorem eX6_step_131 : decode cX6_step 131 = .ok (.iload 4, 2) := by decide +kernel
theorem eX6_step_133 : decode cX6_step 133 = .ok (.invokevirtual 90, 3) := by decide +kernel
theorem eX6_step_136 : decode cX6_step 136 = .ok (.goto 87, 3) := by decide +kernel
theorem eX6_step_139 : decode cX6_step 139 = .ok (.aload_n 0, 1) := by decide +kernel
theorem eX6_step_140 : decode cX6_step 140 = .ok (.aload_n 0, 1) := by decide +kernel
theorem eX6_step_141 : decode cX6_step 141 = .ok (.getfield 37, 3) := by decide +kernel
theorem eX6_step_144 : decode cX6_step 144 = .ok (.iload_n 2, 1) := by decide +kernel
theorem eX6_step_145 : decode cX6_step 145 = .ok (.iconst 1, 1) := by decide +kernel
theorem eX6_step_146 : decode cX6_step 146 = .ok (.invokevirtual 94, 3) := by decide +kernel
theorem eX6_step_149 : decode cX6_step 149 = .ok (.iload_n 3, 1) := by decide +kernel
theorem eX6_step_150 : decode cX6_step 150 = .ok (.iload 4, 2) := by decide +kernel
theorem eX6_step_152 : decode cX6_step 152 = .ok (.invokevirtual 98, 3) := by decide +kernel
theorem eX6_step_155 : decode cX6_step 155 = .ok (.goto 68, 3) := by decide +kernel
theorem eX6_step_158 : decode cX6_step 158 = .ok (.aload_n 0, 1) := by decide +kernel
theorem eX6_step_159 : decode cX6_step 159 = .ok (.aload_n 0, 1) := by decide +kernel
theorem eX6_step_160 : decode cX6_step 160 = .ok (.getfield 37, 3) := by decide +kernel
theorem eX6_step_163 : decode cX6_step 163 = .ok (.iload_n 2, 1) := by decide +kernel
theorem eX6_step_164 : decode cX6_step 164 = .ok (.iconst 0, 1) := by decide +kernel
theorem eX6_step_165 : decode cX6_step 165 = .ok (.invokevirtual 94, 3) := by decide +kernel
theorem eX6_step_168 : decode cX6_step 168 = .ok (.iload_n 3, 1) := by decide +kernel
theorem eX6_step_169 : decode cX6_step 169 = .ok (.iload 4, 2) := by decide +kernel
theorem eX6_step_171 : decode cX6_step 171 = .ok (.invokevirtual 98, 3) := by decide +kernel
theorem eX6_step_174 : decode cX6_step 174 = .ok (.goto 49, 3) := by decide +kernel
theorem eX6_step_177 : decode cX6_step 177 = .ok (.aload_n 0, 1) := by decide +kernel
theorem eX6_step_178 : decode cX6_step 178 = .ok (.iload_n 2, 1) := by decide +kernel
theorem eX6_step_179 : decode cX6_step 179 = .ok (.iload_n 3, 1) := by decide +kernel
theorem eX6_step_180 : decode cX6_step 180 = .ok (.iload 4, 2) := by decide +kernel
theorem eX6_step_182 : decode cX6_step 182 = .ok (.invokevirtual 101, 3) := by decide +kernel
theorem eX6_step_185 : decode cX6_step 185 = .ok (.goto 38, 3) := by decide +kernel
theorem eX6_step_188 : decode cX6_step 188 = .ok (.aload_n 0, 1) := by decide +kernel
theorem eX6_step_189 : decode cX6_step 189 = .ok (.iload_n 1, 1) := by decide +kernel
theorem eX6_step_190 : decode cX6_step 190 = .ok (.iload_n 2, 1) := by decide +kernel
theorem eX6_step_191 : decode cX6_step 191 = .ok (.iload_n 3, 1) := by decide +kernel
theorem eX6_step_192 : decode cX6_step 192 = .ok (.iload 4, 2) := by decide +kernel
theorem eX6_step_194 : decode cX6_step 194 = .ok (.invokevirtual 104, 3) := by decide +kernel
theorem eX6_step_197 : decode cX6_step 197 = .ok (.goto 26, 3) := by decide +kernel
theorem eX6_step_200 : decode cX6_step 200 = .ok (.aload_n 0, 1) := by decide +kernel
theorem eX6_step_201 : decode cX6_step 201 = .ok (.aload_n 0, 1) := by decide +kernel
theorem eX6_step_202 : decode cX6_step 202 = .ok (.iconst 4, 1) := by decide +kernel
theorem eX6_step_203 : decode cX6_step 203 = .ok (.iload_n 2, 1) := by decide +kernel
theorem eX6_step_204 : decode cX6_step 204 = .ok (.iload_n 3, 1) := by decide +kernel
theorem eX6_step_205 : decode cX6_step 205 = .ok (.invokevirtual 108, 3) := by decide +kernel
theorem eX6_step_208 : decode cX6_step 208 = .ok (.invokevirtual 112, 3) := by decide +kernel
theorem eX6_step_211 : decode cX6_step 211 = .ok (.goto 12, 3) := by decide +kernel
theorem eX6_step_214 : decode cX6_step 214 = .ok (.aload_n 0, 1) := by decide +kernel
theorem eX6_step_215 : decode cX6_step 215 = .ok (.iload_n 1, 1) := by decide +kernel
theorem eX6_step_216 : decode cX6_step 216 = .ok (.iload_n 2, 1) := by decide +kernel
theorem eX6_step_217 : decode cX6_step 217 = .ok (.iload_n 3, 1) := by decide +kernel
theorem eX6_step_218 : decode cX6_step 218 = .ok (.iload 4, 2) := by decide +kernel
theorem eX6_step_220 : decode cX6_step 220 = .ok (.invokevirtual 115, 3) := by decide +kernel
theorem eX6_step_223 : decode cX6_step 223 = .ok (.return_, 1) := by decide +kernel
def C_X6_step (s : ST) (p : Int) (Q : ST → Prop) : Prop := bx <| RA s → R32 p → q_met mX6_step (qs layX s) [.ref 80, .int (Int32.ofInt p)] (PV layX Q)
theorem C_X6_step.mono {s : ST} {p : Int} {Q Q' : ST → Prop} (h : C_X6_step s p Q) (hq : ∀ s, Q s → Q' s) : C_X6_step s p Q' := ⟨fun hA hrp => q_met.mono (h.1 hA hrp) (fun _ _ => PV.mono hq), trivial⟩
def K_X6_step_214 (s : ST) (a1 : Int) (a2 : Int) (a3 : Int) (a4 : Int) (Q : ST → Prop) : Prop := bx <| RA s → R32 a1 → R32 a2 → R32 a3 → R32 a4 → q_K mX6_step (qs layX s) 0 0 214 [(0, .ref 80), (1, .int (Int32.ofInt a1)), (2, .int (Int32.ofInt a2)), (3, .int (Int32.ofInt a3)), (4, .int (Int32.ofInt a4))] [] (q_fin mX6_step (PV layX Q))
set_option maxRecDepth 20000 in
theorem s_X6_step_214 {s : ST} {a1 : Int} {a2 : Int} {a3 : Int} {a4 : Int} {Q : ST → Prop} (h : RA s → R32 a1 → R32 a2 → R32 a3 → R32 a4 → (C_X6_stepParts s a1 a2 a3 a4 (fun s1 => Q s1))) : K_X6_step_214 s a1 a2 a3 a4 Q := by
  refine ⟨?_, trivial⟩
  intro hA hra1 hra2 hra3 hra4
  have h := h hA hra1 hra2 hra3 hra4
  refine q_aload_n eX6_step_214 rfl ?_
  refine q_iload_n eX6_step_215 rfl ?_
  refine q_iload_n eX6_step_216 rfl ?_
  refine q_iload_n eX6_step_217 rfl ?_
  refine q_iload eX6_step_218 rfl ?_
  refine q_V4 (ci := 6) (n := 0) eX6_step_220 DX6_stepParts lX6_115 rfl (by decide) rfl rfl rfl rfl (h.1 hA hra1 hra2 hra3 hra4) ?_
  rintro _ _ ⟨s1, rfl, hA1, rfl, h⟩
  exact q_ret eX6_step_223 rfl ⟨_, rfl, hA1, rfl, h⟩
set_option maxRecDepth 20000 in
theorem s_X6_step {s : ST} {p : Int} {Q : ST → Prop} (h : RA s → R32 p → ((p < 0 → Q s) ∧ (¬ p < 0 → ((p < 151 → (((0 : Int) ≤ p ∧ p < 151) ∧ (P_X9_sortOf 2 (ui s 86 p (w32 (s.1 86 p + 1))) (s.1 84 p) ∧ (((F_X9_sortOf 2 (ui s 86 p (w32 (s.1 86 p + 1))) (s.1 84 p)) = 2 → (C_X6_stepName (ui s 86 p (w32 (s.1 86 p + 1))) (s.1 84 p) (s.1 85 p) (s.1 86 p) (fun s4 => Q s4))) ∧ ((F_X9_sortOf 2 (ui s 86 p (w32 (s.1 86 p + 1))) (s.1 84 p)) = 3 → (C_X6_cell (ui s 86 p (w32 (s.1 86 p + 1))) 4 (s.1 84 p) (s.1 85 p) (fun s5 v5 => (C_X6_leave s5 v5 (fun s6 => Q s6))))) ∧ ((F_X9_sortOf 2 (ui s 86 p (w32 (s.1 86 p + 1))) (s.1 84 p)) = 4 → (P_X9_kidOf 2 (ui s 86 p (w32 (s.1 86 p + 1))) (s.1 84 p) 1 ∧ (C_X6_enterOrLeave (ui s 86 p (w32 (s.1 86 p + 1))) (F_X9_kidOf 2 (ui s 86 p (w32 (s.1 86 p + 1))) (s.1 84 p) 1) (s.1 85 p) (s.1 86 p) (fun s9 => Q s9)))) ∧ ((F_X9_sortOf 2 (ui s 86 p (w32 (s.1 86 p + 1))) (s.1 84 p)) = 5 → (C_X6_stepIf (ui s 86 p (w32 (s.1 86 p + 1))) (s.1 84 p) (s.1 85 p) (s.1 86 p) (fun s10 => Q s10))) ∧ ((F_X9_sortOf 2 (ui s 86 p (w32 (s.1 86 p + 1))) (s.1 84 p)) = 6 → (C_X6_stepCall (ui s 86 p (w32 (s.1 86 p + 1))) p (s.1 84 p) (s.1 85 p) (s.1 86 p) (fun s11 => Q s11))) ∧ ((F_X9_sortOf 2 (ui s 86 p (w32 (s.1 86 p + 1))) (s.1 84 p)) = 7 → K_X6_step_214 (ui s 86 p (w32 (s.1 86 p + 1))) p (s.1 84 p) (s.1 85 p) (s.1 86 p) Q) ∧ ((F_X9_sortOf 2 (ui s 86 p (w32 (s.1 86 p + 1))) (s.1 84 p)) = 8 → K_X6_step_214 (ui s 86 p (w32 (s.1 86 p + 1))) p (s.1 84 p) (s.1 85 p) (s.1 86 p) Q) ∧ ((F_X9_sortOf 2 (ui s 86 p (w32 (s.1 86 p + 1))) (s.1 84 p)) = 9 → K_X6_step_214 (ui s 86 p (w32 (s.1 86 p + 1))) p (s.1 84 p) (s.1 85 p) (s.1 86 p) Q) ∧ ((F_X9_sortOf 2 (ui s 86 p (w32 (s.1 86 p + 1))) (s.1 84 p)) = 10 → K_X6_step_214 (ui s 86 p (w32 (s.1 86 p + 1))) p (s.1 84 p) (s.1 85 p) (s.1 86 p) Q) ∧ ((F_X9_sortOf 2 (ui s 86 p (w32 (s.1 86 p + 1))) (s.1 84 p)) = 11 → K_X6_step_214 (ui s 86 p (w32 (s.1 86 p + 1))) p (s.1 84 p) (s.1 85 p) (s.1 86 p) Q) ∧ ((F_X9_sortOf 2 (ui s 86 p (w32 (s.1 86 p + 1))) (s.1 84 p)) = 12 → K_X6_step_214 (ui s 86 p (w32 (s.1 86 p + 1))) p (s.1 84 p) (s.1 85 p) (s.1 86 p) Q) ∧ ((F_X9_sortOf 2 (ui s 86 p (w32 (s.1 86 p + 1))) (s.1 84 p)) = 13 → K_X6_step_214 (ui s 86 p (w32 (s.1 86 p + 1))) p (s.1 84 p) (s.1 85 p) (s.1 86 p) Q) ∧ ((F_X9_sortOf 2 (ui s 86 p (w32 (s.1 86 p + 1))) (s.1 84 p)) = 14 → K_X6_step_214 (ui s 86 p (w32 (s.1 86 p + 1))) p (s.1 84 p) (s.1 85 p) (s.1 86 p) Q) ∧ ((F_X9_sortOf 2 (ui s 86 p (w32 (s.1 86 p + 1))) (s.1 84 p)) = 15 → K_X6_step_214 (ui s 86 p (w32 (s.1 86 p + 1))) p (s.1 84 p) (s.1 85 p) (s.1 86 p) Q) ∧ ((F_X9_sortOf 2 (ui s 86 p (w32 (s.1 86 p + 1))) (s.1 84 p)) = 16 → (P_X9_kidOf 2 (ui s 86 p (w32 (s.1 86 p + 1))) (s.1 84 p) 0 ∧ (C_X6_enterOrLeave (ui s 86 p (w32 (s.1 86 p + 1))) (F_X9_kidOf 2 (ui s 86 p (w32 (s.1 86 p + 1))) (s.1 84 p) 0) (s.1 85 p) (s.1 86 p) (fun s14 => Q s14)))) ∧ (((F_X9_sortOf 2 (ui s 86 p (w32 (s.1 86 p + 1))) (s.1 84 p)) < 2 ∨ 16 < (F_X9_sortOf 2 (ui s 86 p (w32 (s.1 86 p + 1))) (s.1 84 p))) → K_X6_step_214 (ui s 86 p (w32 (s.1 86 p + 1))) p (s.1 84 p) (s.1 85 p) (s.1 86 p) Q))))) ∧ (¬ p < 151 → Q s))))) : C_X6_step s p Q := by
  refine ⟨?_, trivial⟩
  intro hA hrp
  have h := h hA hrp
  refine q_enter (by decide) (Nat.le_of_ble_eq_true rfl) ?_
  refine q_iload_n eX6_step_0 rfl ?_
  refine q_iz_lt (tgt := 11) (a := p) eX6_step_1 (by decide) (ofz hrp) (fun c1 => ?_) (fun c1 => ?_)
  · have h := h.1 c1
    exact q_ret eX6_step_11 rfl ⟨_, rfl, hA, rfl, h⟩
  · have h := h.2 c1
    refine q_iload_n eX6_step_4 rfl ?_
    refine q_si (v := Int32.ofInt 151) eX6_step_5 rfl ?_
    refine q_cz_lt (tgt := 12) (a := p) (b := 151) eX6_step_8 (by decide) (ofz hrp) (ofz (r32l rfl)) (fun c8 => ?_) (fun c8 => ?_)
    · have h := h.1 c8
      refine q_aload_n eX6_step_12 rfl ?_
      refine q_getR (c := 6) (n := 0) (k := 8) (a := 84) eX6_step_13 rfl (by decide) (by decide) fX6_25 rfl rfl ?_
      refine q_iload_n eX6_step_16 rfl ?_
      have f1 := h.1
      have h := h.2
      refine z_iald (n := 151) eX6_step_17 rfl (ofz hrp) f1 ?_
      refine q_topI (v := Int32.ofInt (s.1 84 p)) rfl ?_
      refine q_istore_n eX6_step_18 (Nat.le_of_ble_eq_true rfl) ?_
      refine q_aload_n eX6_step_19 rfl ?_
      refine q_getR (c := 6) (n := 0) (k := 9) (a := 85) eX6_step_20 rfl (by decide) (by decide) fX6_28 rfl rfl ?_
      refine q_iload_n eX6_step_23 rfl ?_
      refine z_iald (n := 151) eX6_step_24 rfl (ofz hrp) f1 ?_
      refine q_topI (v := Int32.ofInt (s.1 85 p)) rfl ?_
      refine q_istore_n eX6_step_25 (Nat.le_of_ble_eq_true rfl) ?_
      refine q_aload_n eX6_step_26 rfl ?_
      refine q_getR (c := 6) (n := 0) (k := 10) (a := 86) eX6_step_27 rfl (by decide) (by decide) fX6_31 rfl rfl ?_
      refine q_iload_n eX6_step_30 rfl ?_
      refine z_iald (n := 151) eX6_step_31 rfl (ofz hrp) f1 ?_
      refine q_topI (v := Int32.ofInt (s.1 86 p)) rfl ?_
      refine q_istore eX6_step_32 (Nat.le_of_ble_eq_true rfl) ?_
      refine q_aload_n eX6_step_34 rfl ?_
      refine q_getR (c := 6) (n := 0) (k := 10) (a := 86) eX6_step_35 rfl (by decide) (by decide) fX6_31 rfl rfl ?_
      refine q_iload_n eX6_step_38 rfl ?_
      refine q_dup2 eX6_step_39 rfl rfl ?_
      refine z_iald (n := 151) eX6_step_40 rfl (ofz hrp) f1 ?_
      refine q_topI (v := Int32.ofInt (s.1 86 p)) rfl ?_
      refine q_ic (v := Int32.ofInt 1) eX6_step_41 rfl ?_
      refine z_iadd eX6_step_42 ?_
      refine q_topI (v := Int32.ofInt (w32 (s.1 86 p + 1))) (w32_of _).symm ?_
      refine z_iast (n := 151) eX6_step_43 rfl (ofz hrp) f1  ?_
      refine q_aload_n eX6_step_44 rfl ?_
      refine q_getR (c := 6) (n := 0) (k := 3) (a := 2) eX6_step_45 rfl (by decide) (by decide) fX6_37 rfl rfl ?_
      refine q_iload_n eX6_step_48 rfl ?_
      have f3 := h.1
      have h := h.2
      refine q_V1 (ci := 9) (n := 0) eX6_step_49 DX9_sortOf lX6_87 rfl (by decide) rfl rfl rfl rfl (p_X9_sortOf f3 (by decide) (ra_ui hA (w32_r _)) (hA _ _)) ?_
      rintro _ _ ⟨r2, rfl, rfl⟩
      refine q_tab15 128 200 139 177 188 214 214 214 214 214 214 214 214 214 158 214 eX6_step_52 rfl rfl (by decide) (z := (F_X9_sortOf 2 (ui s 86 p (w32 (s.1 86 p + 1))) (s.1 84 p))) (ofz r2) (fun c52 => ?_) (fun c52 => ?_) (fun c52 => ?_) (fun c52 => ?_) (fun c52 => ?_) (fun c52 => ?_) (fun c52 => ?_) (fun c52 => ?_) (fun c52 => ?_) (fun c52 => ?_) (fun c52 => ?_) (fun c52 => ?_) (fun c52 => ?_) (fun c52 => ?_) (fun c52 => ?_) (fun c52 => ?_)
      · have h := h.1 c52
        refine q_aload_n eX6_step_128 rfl ?_
        refine q_iload_n eX6_step_129 rfl ?_
        refine q_iload_n eX6_step_130 rfl ?_
        refine q_iload eX6_step_131 rfl ?_
        refine q_V3 (ci := 6) (n := 0) eX6_step_133 DX6_stepName lX6_90 rfl (by decide) rfl rfl rfl rfl (h.1 (ra_ui hA (w32_r _)) (hA _ _) (hA _ _) (hA _ _)) ?_
        rintro _ _ ⟨s4, rfl, hA4, rfl, h⟩
        refine q_goto (tgt := 223) eX6_step_136 (by decide) ?_
        exact q_ret eX6_step_223 rfl ⟨_, rfl, hA4, rfl, h⟩
      · have h := h.2.1 c52
        refine q_aload_n eX6_step_200 rfl ?_
        refine q_aload_n eX6_step_201 rfl ?_
        refine q_ic (v := Int32.ofInt 4) eX6_step_202 rfl ?_
        refine q_iload_n eX6_step_203 rfl ?_
        refine q_iload_n eX6_step_204 rfl ?_
        refine q_V3 (ci := 6) (n := 0) eX6_step_205 DX6_cell lX6_108 rfl (by decide) rfl rfl rfl rfl (h.1 (ra_ui hA (w32_r _)) (r32l rfl) (hA _ _) (hA _ _)) ?_
        rintro _ _ ⟨s5, v5, rfl, hA5, r5, rfl, h⟩
        refine q_V1 (ci := 6) (n := 0) eX6_step_208 DX6_leave lX6_112 rfl (by decide) rfl rfl rfl rfl (h.1 hA5 r5) ?_
        rintro _ _ ⟨s6, rfl, hA6, rfl, h⟩
        refine q_goto (tgt := 223) eX6_step_211 (by decide) ?_
        exact q_ret eX6_step_223 rfl ⟨_, rfl, hA6, rfl, h⟩
      · have h := h.2.2.1 c52
        refine q_aload_n eX6_step_139 rfl ?_
        refine q_aload_n eX6_step_140 rfl ?_
        refine q_getR (c := 6) (n := 0) (k := 3) (a := 2) eX6_step_141 rfl (by decide) (by decide) fX6_37 rfl rfl ?_
        refine q_iload_n eX6_step_144 rfl ?_
        refine q_ic (v := Int32.ofInt 1) eX6_step_145 rfl ?_
        have f8 := h.1
        have h := h.2
        refine q_V2 (ci := 9) (n := 0) eX6_step_146 DX9_kidOf lX6_94 rfl (by decide) rfl rfl rfl rfl (p_X9_kidOf f8 (by decide) (ra_ui hA (w32_r _)) (hA _ _) (r32l rfl)) ?_
        rintro _ _ ⟨r7, rfl, rfl⟩
        refine q_iload_n eX6_step_149 rfl ?_
        refine q_iload eX6_step_150 rfl ?_
        refine q_V3 (ci := 6) (n := 0) eX6_step_152 DX6_enterOrLeave lX6_98 rfl (by decide) rfl rfl rfl rfl (h.1 (ra_ui hA (w32_r _)) r7 (hA _ _) (hA _ _)) ?_
        rintro _ _ ⟨s9, rfl, hA9, rfl, h⟩
        refine q_goto (tgt := 223) eX6_step_155 (by decide) ?_
        exact q_ret eX6_step_223 rfl ⟨_, rfl, hA9, rfl, h⟩
      · have h := h.2.2.2.1 c52
        refine q_aload_n eX6_step_177 rfl ?_
        refine q_iload_n eX6_step_178 rfl ?_
        refine q_iload_n eX6_step_179 rfl ?_
        refine q_iload eX6_step_180 rfl ?_
        refine q_V3 (ci := 6) (n := 0) eX6_step_182 DX6_stepIf lX6_101 rfl (by decide) rfl rfl rfl rfl (h.1 (ra_ui hA (w32_r _)) (hA _ _) (hA _ _) (hA _ _)) ?_
        rintro _ _ ⟨s10, rfl, hA10, rfl, h⟩
        refine q_goto (tgt := 223) eX6_step_185 (by decide) ?_
        exact q_ret eX6_step_223 rfl ⟨_, rfl, hA10, rfl, h⟩
      · have h := h.2.2.2.2.1 c52
        refine q_aload_n eX6_step_188 rfl ?_
        refine q_iload_n eX6_step_189 rfl ?_
        refine q_iload_n eX6_step_190 rfl ?_
        refine q_iload_n eX6_step_191 rfl ?_
        refine q_iload eX6_step_192 rfl ?_
        refine q_V4 (ci := 6) (n := 0) eX6_step_194 DX6_stepCall lX6_104 rfl (by decide) rfl rfl rfl rfl (h.1 (ra_ui hA (w32_r _)) hrp (hA _ _) (hA _ _) (hA _ _)) ?_
        rintro _ _ ⟨s11, rfl, hA11, rfl, h⟩
        refine q_goto (tgt := 223) eX6_step_197 (by decide) ?_
        exact q_ret eX6_step_223 rfl ⟨_, rfl, hA11, rfl, h⟩
      · have h := h.2.2.2.2.2.1 c52
        exact q_subL rfl (h.1 (ra_ui hA (w32_r _)) hrp (hA _ _) (hA _ _) (hA _ _))
      · have h := h.2.2.2.2.2.2.1 c52
        exact q_subL rfl (h.1 (ra_ui hA (w32_r _)) hrp (hA _ _) (hA _ _) (hA _ _))
      · have h := h.2.2.2.2.2.2.2.1 c52
        exact q_subL rfl (h.1 (ra_ui hA (w32_r _)) hrp (hA _ _) (hA _ _) (hA _ _))
      · have h := h.2.2.2.2.2.2.2.2.1 c52
        exact q_subL rfl (h.1 (ra_ui hA (w32_r _)) hrp (hA _ _) (hA _ _) (hA _ _))
      · have h := h.2.2.2.2.2.2.2.2.2.1 c52
        exact q_subL rfl (h.1 (ra_ui hA (w32_r _)) hrp (hA _ _) (hA _ _) (hA _ _))
      · have h := h.2.2.2.2.2.2.2.2.2.2.1 c52
        exact q_subL rfl (h.1 (ra_ui hA (w32_r _)) hrp (hA _ _) (hA _ _) (hA _ _))
      · have h := h.2.2.2.2.2.2.2.2.2.2.2.1 c52
        exact q_subL rfl (h.1 (ra_ui hA (w32_r _)) hrp (hA _ _) (hA _ _) (hA _ _))
      · have h := h.2.2.2.2.2.2.2.2.2.2.2.2.1 c52
        exact q_subL rfl (h.1 (ra_ui hA (w32_r _)) hrp (hA _ _) (hA _ _) (hA _ _))
      · have h := h.2.2.2.2.2.2.2.2.2.2.2.2.2.1 c52
        exact q_subL rfl (h.1 (ra_ui hA (w32_r _)) hrp (hA _ _) (hA _ _) (hA _ _))
      · have h := h.2.2.2.2.2.2.2.2.2.2.2.2.2.2.1 c52
        refine q_aload_n eX6_step_158 rfl ?_
        refine q_aload_n eX6_step_159 rfl ?_
        refine q_getR (c := 6) (n := 0) (k := 3) (a := 2) eX6_step_160 rfl (by decide) (by decide) fX6_37 rfl rfl ?_
        refine q_iload_n eX6_step_163 rfl ?_
        refine q_ic (v := Int32.ofInt 0) eX6_step_164 rfl ?_
        have f13 := h.1
        have h := h.2
        refine q_V2 (ci := 9) (n := 0) eX6_step_165 DX9_kidOf lX6_94 rfl (by decide) rfl rfl rfl rfl (p_X9_kidOf f13 (by decide) (ra_ui hA (w32_r _)) (hA _ _) (r32l rfl)) ?_
        rintro _ _ ⟨r12, rfl, rfl⟩
        refine q_iload_n eX6_step_168 rfl ?_
        refine q_iload eX6_step_169 rfl ?_
        refine q_V3 (ci := 6) (n := 0) eX6_step_171 DX6_enterOrLeave lX6_98 rfl (by decide) rfl rfl rfl rfl (h.1 (ra_ui hA (w32_r _)) r12 (hA _ _) (hA _ _)) ?_
        rintro _ _ ⟨s14, rfl, hA14, rfl, h⟩
        refine q_goto (tgt := 223) eX6_step_174 (by decide) ?_
        exact q_ret eX6_step_223 rfl ⟨_, rfl, hA14, rfl, h⟩
      · have h := h.2.2.2.2.2.2.2.2.2.2.2.2.2.2.2 c52
        exact q_subL rfl (h.1 (ra_ui hA (w32_r _)) hrp (hA _ _) (hA _ _) (hA _ _))
    · have h := h.2 c8
      exact q_ret eX6_step_11 rfl ⟨_, rfl, hA, rfl, h⟩
theorem eX6_numberOf_0 : decode cX6_numberOf 0 = .ok (.aload_n 0, 1) := by decide +kernel
theorem eX6_numberOf_1 : decode cX6_numberOf 1 = .ok (.iload_n 1, 1) := by decide +kernel
theorem eX6_numberOf_2 : decode cX6_numberOf 2 = .ok (.invokevirtual 71, 3) := by decide +kernel
theorem eX6_numberOf_5 : decode cX6_numberOf 5 = .ok (.istore_n 2, 1) := by decide +kernel
theorem eX6_numberOf_6 : decode cX6_numberOf 6 = .ok (.iload_n 2, 1) := by decide +kernel
theorem eX6_numberOf_7 : decode cX6_numberOf 7 = .ok (.ifCond .eq 8, 3) := by decide +kernel
theorem eX6_numberOf_10 : decode cX6_numberOf 10 = .ok (.iload_n 2, 1) := by decide +kernel
theorem eX6_numberOf_11 : decode cX6_numberOf 11 = .ok (.iconst 1, 1) := by decide +kernel
theorem eX6_numberOf_12 : decode cX6_numberOf 12 = .ok (.if_icmp .ne 9, 3) := by decide +kernel
theorem eX6_numberOf_15 : decode cX6_numberOf 15 = .ok (.aload_n 0, 1) := by decide +kernel
theorem eX6_numberOf_16 : decode cX6_numberOf 16 = .ok (.iload_n 1, 1) := by decide +kernel
theorem eX6_numberOf_17 : decode cX6_numberOf 17 = .ok (.invokevirtual 130, 3) := by decide +kernel
theorem eX6_numberOf_20 : decode cX6_numberOf 20 = .ok (.ireturn, 1) := by decide +kernel
theorem eX6_numberOf_21 : decode cX6_numberOf 21 = .ok (.iload_n 2, 1) := by decide +kernel
theorem eX6_numberOf_22 : decode cX6_numberOf 22 = .ok (.iconst 2, 1) := by decide +kernel
theorem eX6_numberOf_23 : decode cX6_numberOf 23 = .ok (.if_icmp .eq 5, 3) := by decide +kernel
theorem eX6_numberOf_26 : decode cX6_numberOf 26 = .ok (.iconst 0, 1) := by decide +kernel
theorem eX6_numberOf_27 : decode cX6_numberOf 27 = .ok (.ireturn, 1) := by decide +kernel
theorem eX6_numberOf_28 : decode cX6_numberOf 28 = .ok (.iconst 0, 1) := by decide +kernel
theorem eX6_numberOf_29 : decode cX6_numberOf 29 = .ok (.istore_n 3, 1) := by decide +kernel
theorem eX6_numberOf_30 : decode cX6_numberOf 30 = .ok (.iload_n 1, 1) := by decide +kernel
theorem eX6_numberOf_31 : decode cX6_numberOf 31 = .ok (.istore 4, 2) := by decide +kernel
theorem eX6_numberOf_33 : decode cX6_numberOf 33 = .ok (.iconst 0, 1) := by decide +kernel
theorem eX6_numberOf_34 : decode cX6_numberOf 34 = .ok (.istore 5, 2) := by decide +kernel
theorem eX6_numberOf_36 : decode cX6_numberOf 36 = .ok (.iload 5, 2) := by decide +kernel
theorem eX6_numberOf_38 : decode cX6_numberOf 38 = .ok (.sipush 4000, 3) := by decide +kernel
theorem eX6_numberOf_41 : decode cX6_numberOf 41 = .ok (.if_icmp .ge 30, 3) := by decide +kernel
theorem eX6_numberOf_44 : decode cX6_numberOf 44 = .ok (.aload_n 0, 1) := by decide +kernel
theorem eX6_numberOf_45 : decode cX6_numberOf 45 = .ok (.iload 4, 2) := by decide +kernel
theorem eX6_numberOf_47 : decode cX6_numberOf 47 = .ok (.invokevirtual 124, 3) := by decide +kernel
theorem eX6_numberOf_50 : decode cX6_numberOf 50 = .ok (.iconst (-1), 1) := by decide +kernel
theorem eX6_numberOf_51 : decode cX6_numberOf 51 = .ok (.if_icmp .eq 20, 3) := by decide +kernel
theorem eX6_numberOf_54 : decode cX6_numberOf 54 = .ok (.iinc 3 1, 3) := by decide +kernel
theorem eX6_numberOf_57 : decode cX6_numberOf 57 = .ok (.aload_n 0, 1) := by decide +kernel
theorem eX6_numberOf_58 : decode cX6_numberOf 58 = .ok (.iload 4, 2) := by decide +kernel
theorem eX6_numberOf_60 : decode cX6_numberOf 60 = .ok (.invokevirtual 124, 3) := by decide +kernel
theorem eX6_numberOf_63 : decode cX6_numberOf 63 = .ok (.istore 4, 2) := by decide +kernel
theorem eX6_numberOf_65 : decode cX6_numberOf 65 = .ok (.iinc 5 1, 3) := by decide +kernel
theorem eX6_numberOf_68 : decode cX6_numberOf 68 = .ok (.goto (-32), 3) := by decide +kernel
theorem eX6_numberOf_71 : decode cX6_numberOf 71 = .ok (.iload_n 3, 1) := by decide +kernel
theorem eX6_numberOf_72 : decode cX6_numberOf 72 = .ok (.ireturn, 1) := by decide +kernel
def C_X6_numberOf (s : ST) (p : Int) (Q : ST → Int → Prop) : Prop := bx <| RA s → R32 p → q_met mX6_numberOf (qs layX s) [.ref 80, .int (Int32.ofInt p)] (PI layX Q)
theorem C_X6_numberOf.mono {s : ST} {p : Int} {Q Q' : ST → Int → Prop} (h : C_X6_numberOf s p Q) (hq : ∀ s v, Q s v → Q' s v) : C_X6_numberOf s p Q' := ⟨fun hA hrp => q_met.mono (h.1 hA hrp) (fun _ _ => PI.mono hq), trivial⟩
def K_X6_numberOf_36 (s : ST) (a3 : Int) (a4 : Int) (a5 : Int) (Q : ST → Int → Prop) : Prop := bx <| RA s → R32 a3 → R32 a4 → R32 a5 → q_K mX6_numberOf (qs layX s) 0 0 36 [(0, .ref 80), (3, .int (Int32.ofInt a3)), (4, .int (Int32.ofInt a4)), (5, .int (Int32.ofInt a5))] [] (q_fin mX6_numberOf (PI layX Q))
def K_X6_numberOf_15 (s : ST) (a1 : Int) (Q : ST → Int → Prop) : Prop := bx <| RA s → R32 a1 → q_K mX6_numberOf (qs layX s) 0 0 15 [(0, .ref 80), (1, .int (Int32.ofInt a1))] [] (q_fin mX6_numberOf (PI layX Q))
set_option maxRecDepth 20000 in
theorem s_X6_numberOf_36 {s : ST} {a3 : Int} {a4 : Int} {a5 : Int} {Q : ST → Int → Prop} (h : RA s → R32 a3 → R32 a4 → R32 a5 → ((4000 ≤ a5 → Q s a3) ∧ (¬ 4000 ≤ a5 → (P_X6_twoOf s a4 ∧ (((F_X6_twoOf s a4) = (-1) → Q s a3) ∧ (¬ (F_X6_twoOf s a4) = (-1) → (R32 (a3 + 1) ∧ (R32 (a5 + 1) ∧ K_X6_numberOf_36 s (a3 + 1) (F_X6_twoOf s a4) (a5 + 1) Q)))))))) : K_X6_numberOf_36 s a3 a4 a5 Q := by
  refine ⟨?_, trivial⟩
  intro hA hra3 hra4 hra5
  have h := h hA hra3 hra4 hra5
  refine q_iload eX6_numberOf_36 rfl ?_
  refine q_si (v := Int32.ofInt 4000) eX6_numberOf_38 rfl ?_
  refine q_cz_ge (tgt := 71) (a := a5) (b := 4000) eX6_numberOf_41 (by decide) (ofz hra5) (ofz (r32l rfl)) (fun c41 => ?_) (fun c41 => ?_)
  · have h := h.1 c41
    refine q_iload_n eX6_numberOf_71 rfl ?_
    exact q_iret eX6_numberOf_72 rfl ⟨_, _, rfl, hA, hra3, rfl, h⟩
  · have h := h.2 c41
    refine q_aload_n eX6_numberOf_44 rfl ?_
    refine q_iload eX6_numberOf_45 rfl ?_
    have f2 := h.1
    have h := h.2
    refine q_V1 (ci := 6) (n := 0) eX6_numberOf_47 DX6_twoOf lX6_124 rfl (by decide) rfl rfl rfl rfl (p_X6_twoOf f2 hA hra4) ?_
    rintro _ _ ⟨r1, rfl, rfl⟩
    refine q_ic (v := Int32.ofInt (-1)) eX6_numberOf_50 rfl ?_
    refine q_cz_eq (tgt := 71) (a := (F_X6_twoOf s a4)) (b := (-1)) eX6_numberOf_51 (by decide) (ofz r1) (ofz (r32l rfl)) (fun c51 => ?_) (fun c51 => ?_)
    · have h := h.1 c51
      refine q_iload_n eX6_numberOf_71 rfl ?_
      exact q_iret eX6_numberOf_72 rfl ⟨_, _, rfl, hA, hra3, rfl, h⟩
    · have h := h.2 c51
      have r3 := h.1
      have h := h.2
      refine z_inc (m := 1) eX6_numberOf_54 rfl (Nat.le_of_ble_eq_true rfl) rfl ?_
      refine q_aload_n eX6_numberOf_57 rfl ?_
      refine q_iload eX6_numberOf_58 rfl ?_
      refine q_V1 (ci := 6) (n := 0) eX6_numberOf_60 DX6_twoOf lX6_124 rfl (by decide) rfl rfl rfl rfl (p_X6_twoOf f2 hA hra4) ?_
      rintro _ _ ⟨r4, rfl, rfl⟩
      refine q_istore eX6_numberOf_63 (Nat.le_of_ble_eq_true rfl) ?_
      have r5 := h.1
      have h := h.2
      refine z_inc (m := 1) eX6_numberOf_65 rfl (Nat.le_of_ble_eq_true rfl) rfl ?_
      refine q_goto (tgt := 36) eX6_numberOf_68 (by decide) ?_
      exact q_subL rfl (h.1 hA r3 r4 r5)
set_option maxRecDepth 20000 in
theorem s_X6_numberOf_15 {s : ST} {a1 : Int} {Q : ST → Int → Prop} (h : RA s → R32 a1 → (P_X6_oneOf s a1 ∧ Q s (F_X6_oneOf s a1))) : K_X6_numberOf_15 s a1 Q := by
  refine ⟨?_, trivial⟩
  intro hA hra1
  have h := h hA hra1
  refine q_aload_n eX6_numberOf_15 rfl ?_
  refine q_iload_n eX6_numberOf_16 rfl ?_
  have f2 := h.1
  have h := h.2
  refine q_V1 (ci := 6) (n := 0) eX6_numberOf_17 DX6_oneOf lX6_130 rfl (by decide) rfl rfl rfl rfl (p_X6_oneOf f2 hA hra1) ?_
  rintro _ _ ⟨r1, rfl, rfl⟩
  exact q_iret eX6_numberOf_20 rfl ⟨_, _, rfl, hA, r1, rfl, h⟩
set_option maxRecDepth 20000 in
theorem s_X6_numberOf {s : ST} {p : Int} {Q : ST → Int → Prop} (h : RA s → R32 p → (P_X6_headOf s p ∧ (((F_X6_headOf s p) = 0 → K_X6_numberOf_15 s p Q) ∧ (¬ (F_X6_headOf s p) = 0 → ((¬ (F_X6_headOf s p) = 1 → (((F_X6_headOf s p) = 2 → K_X6_numberOf_36 s 0 p 0 Q) ∧ (¬ (F_X6_headOf s p) = 2 → Q s 0))) ∧ ((F_X6_headOf s p) = 1 → K_X6_numberOf_15 s p Q)))))) : C_X6_numberOf s p Q := by
  refine ⟨?_, trivial⟩
  intro hA hrp
  have h := h hA hrp
  refine q_enter (by decide) (Nat.le_of_ble_eq_true rfl) ?_
  refine q_aload_n eX6_numberOf_0 rfl ?_
  refine q_iload_n eX6_numberOf_1 rfl ?_
  have f2 := h.1
  have h := h.2
  refine q_V1 (ci := 6) (n := 0) eX6_numberOf_2 DX6_headOf lX6_71 rfl (by decide) rfl rfl rfl rfl (p_X6_headOf f2 hA hrp) ?_
  rintro _ _ ⟨r1, rfl, rfl⟩
  refine q_istore_n eX6_numberOf_5 (Nat.le_of_ble_eq_true rfl) ?_
  refine q_iload_n eX6_numberOf_6 rfl ?_
  refine q_iz_eq (tgt := 15) (a := (F_X6_headOf s p)) eX6_numberOf_7 (by decide) (ofz r1) (fun c7 => ?_) (fun c7 => ?_)
  · have h := h.1 c7
    exact q_subL rfl (h.1 hA hrp)
  · have h := h.2 c7
    refine q_iload_n eX6_numberOf_10 rfl ?_
    refine q_ic (v := Int32.ofInt 1) eX6_numberOf_11 rfl ?_
    refine q_cz_ne (tgt := 21) (a := (F_X6_headOf s p)) (b := 1) eX6_numberOf_12 (by decide) (ofz r1) (ofz (r32l rfl)) (fun c12 => ?_) (fun c12 => ?_)
    · have h := h.1 c12
      refine q_iload_n eX6_numberOf_21 rfl ?_
      refine q_ic (v := Int32.ofInt 2) eX6_numberOf_22 rfl ?_
      refine q_cz_eq (tgt := 28) (a := (F_X6_headOf s p)) (b := 2) eX6_numberOf_23 (by decide) (ofz r1) (ofz (r32l rfl)) (fun c23 => ?_) (fun c23 => ?_)
      · have h := h.1 c23
        refine q_ic (v := Int32.ofInt 0) eX6_numberOf_28 rfl ?_
        refine q_istore_n eX6_numberOf_29 (Nat.le_of_ble_eq_true rfl) ?_
        refine q_iload_n eX6_numberOf_30 rfl ?_
        refine q_istore eX6_numberOf_31 (Nat.le_of_ble_eq_true rfl) ?_
        refine q_ic (v := Int32.ofInt 0) eX6_numberOf_33 rfl ?_
        refine q_istore eX6_numberOf_34 (Nat.le_of_ble_eq_true rfl) ?_
        exact q_subL rfl (h.1 hA (r32l rfl) hrp (r32l rfl))
      · have h := h.2 c23
        refine q_ic (v := Int32.ofInt 0) eX6_numberOf_26 rfl ?_
        exact q_iret eX6_numberOf_27 rfl ⟨_, _, rfl, hA, (r32l rfl), rfl, h⟩
    · have h := h.2 c12
      exact q_subL rfl (h.1 hA hrp)
theorem eX6_work_0 : decode cX6_work 0 = .ok (.aload_n 0, 1) := by decide +kernel
theorem eX6_work_1 : decode cX6_work 1 = .ok (.getfield 9, 3) := by decide +kernel
theorem eX6_work_4 : decode cX6_work 4 = .ok (.iconst (-1), 1) := by decide +kernel
theorem eX6_work_5 : decode cX6_work 5 = .ok (.if_icmp .eq 4, 3) := by decide +kernel
theorem eX6_work_8 : decode cX6_work 8 = .ok (.return_, 1) := by decide +kernel
theorem eX6_work_9 : decode cX6_work 9 = .ok (.aload_n 0, 1) := by decide +kernel
theorem eX6_work_10 : decode cX6_work 10 = .ok (.iconst 0, 1) := by decide +kernel
theorem eX6_work_11 : decode cX6_work 11 = .ok (.putfield 9, 3) := by decide +kernel
theorem eX6_work_14 : decode cX6_work 14 = .ok (.aload_n 0, 1) := by decide +kernel
theorem eX6_work_15 : decode cX6_work 15 = .ok (.iconst 0, 1) := by decide +kernel
theorem eX6_work_16 : decode cX6_work 16 = .ok (.putfield 41, 3) := by decide +kernel
theorem eX6_work_19 : decode cX6_work 19 = .ok (.aload_n 0, 1) := by decide +kernel
theorem eX6_work_20 : decode cX6_work 20 = .ok (.iconst 0, 1) := by decide +kernel
theorem eX6_work_21 : decode cX6_work 21 = .ok (.putfield 44, 3) := by decide +kernel
theorem eX6_work_24 : decode cX6_work 24 = .ok (.aload_n 0, 1) := by decide +kernel
theorem eX6_work_25 : decode cX6_work 25 = .ok (.iconst 0, 1) := by decide +kernel
theorem eX6_work_26 : decode cX6_work 26 = .ok (.putfield 47, 3) := by decide +kernel
theorem eX6_work_29 : decode cX6_work 29 = .ok (.aload_n 0, 1) := by decide +kernel
theorem eX6_work_30 : decode cX6_work 30 = .ok (.iconst (-1), 1) := by decide +kernel
theorem eX6_work_31 : decode cX6_work 31 = .ok (.putfield 50, 3) := by decide +kernel
theorem eX6_work_34 : decode cX6_work 34 = .ok (.aload_n 0, 1) := by decide +kernel
theorem eX6_work_35 : decode cX6_work 35 = .ok (.aload_n 0, 1) := by decide +kernel
theorem eX6_work_36 : decode cX6_work 36 = .ok (.getfield 37, 3) := by decide +kernel
theorem eX6_work_39 : decode cX6_work 39 = .ok (.aload_n 0, 1) := by decide +kernel
theorem eX6_work_40 : decode cX6_work 40 = .ok (.getfield 37, 3) := by decide +kernel
theorem eX6_work_43 : decode cX6_work 43 = .ok (.getfield 53, 3) := by decide +kernel
theorem eX6_work_46 : decode cX6_work 46 = .ok (.iconst 1, 1) := by decide +kernel
theorem eX6_work_47 : decode cX6_work 47 = .ok (.isub, 1) := by decide +kernel
theorem eX6_work_48 : decode cX6_work 48 = .ok (.invokevirtual 58, 3) := by decide +kernel
theorem eX6_work_51 : decode cX6_work 51 = .ok (.iconst (-1), 1) := by decide +kernel
theorem eX6_work_52 : decode cX6_work 52 = .ok (.invokevirtual 62, 3) := by decide +kernel
theorem eX6_work_55 : decode cX6_work 55 = .ok (.iconst 0, 1) := by decide +kernel
theorem eX6_work_56 : decode cX6_work 56 = .ok (.istore_n 1, 1) := by decide +kernel
theorem eX6_work_57 : decode cX6_work 57 = .ok (.iload_n 1, 1) := by decide +kernel
theorem eX6_work_58 : decode cX6_work 58 = .ok (.ldc 66, 2) := by decide +kernel
theorem eX6_work_60 : decode cX6_work 60 = .ok (.if_icmp .ge 33, 3) := by decide +kernel
theorem eX6_work_63 : decode cX6_work 63 = .ok (.aload_n 0, 1) := by decide +kernel
theorem eX6_work_64 : decode cX6_work 64 = .ok (.getfield 44, 3) := by decide +kernel
theorem eX6_work_67 : decode cX6_work 67 = .ok (.ifCond .le 26, 3) := by decide +kernel
theorem eX6_work_70 : decode cX6_work 70 = .ok (.aload_n 0, 1) := by decide +kernel
theorem eX6_work_71 : decode cX6_work 71 = .ok (.getfield 47, 3) := by decide +kernel
theorem eX6_work_74 : decode cX6_work 74 = .ok (.ifCond .ne 19, 3) := by decide +kernel
theorem eX6_work_77 : decode cX6_work 77 = .ok (.aload_n 0, 1) := by decide +kernel
theorem eX6_work_78 : decode cX6_work 78 = .ok (.aload_n 0, 1) := by decide +kernel
theorem eX6_work_79 : decode cX6_work 79 = .ok (.getfield 44, 3) := by decide +kernel
theorem eX6_work_82 : decode cX6_work 82 = .ok (.iconst 1, 1) := by decide +kernel
theorem eX6_work_83 : decode cX6_work 83 = .ok (.isub, 1) := by decide +kernel
theorem eX6_work_84 : decode cX6_work 84 = .ok (.invokevirtual 67, 3) := by decide +kernel
theorem eX6_work_87 : decode cX6_work 87 = .ok (.iinc 1 1, 3) := by decide +kernel
theorem eX6_work_90 : decode cX6_work 90 = .ok (.goto (-33), 3) := by decide +kernel
theorem eX6_work_93 : decode cX6_work 93 = .ok (.aload_n 0, 1) := by decide +kernel
theorem eX6_work_94 : decode cX6_work 94 = .ok (.aload_n 0, 1) := by decide +kernel
theorem eX6_work_95 : decode cX6_work 95 = .ok (.getfield 47, 3) := by decide +kernel
theorem eX6_work_98 : decode cX6_work 98 = .ok (.ifCond .eq 10, 3) := by decide +kernel
theorem eX6_work_101 : decode cX6_work 101 = .ok (.aload_n 0, 1) := by decide +kernel
theorem eX6_work_102 : decode cX6_work 102 = .ok (.getfield 47, 3) := by decide +kernel
theorem eX6_work_105 : decode cX6_work 105 = .ok (.goto 11, 3) := by decide +kernel
theorem eX6_work_108 : decode cX6_work 108 = .ok (.aload_n 0, 1) := by decide +kernel
theorem eX6_work_109 : decode cX6_work 109 = .ok (.aload_n 0, 1) := by decide +kernel
theorem eX6_work_110 : decode cX6_work 110 = .ok (.getfield 50, 3) := by decide +kernel
theorem eX6_work_113 : decode cX6_work 113 = .ok (.invokevirtual 71, 3) := by decide +kernel
theorem eX6_work_116 : decode cX6_work 116 = .ok (.putfield 74, 3) := by decide +kernel
theorem eX6_work_119 : decode cX6_work 119 = .ok (.aload_n 0, 1) := by decide +kernel
theorem eX6_work_120 : decode cX6_work 120 = .ok (.aload_n 0, 1) := by decide +kernel
theorem eX6_work_121 : decode cX6_work 121 = .ok (.getfield 47, 3) := by decide +kernel
theorem eX6_work_124 : decode cX6_work 124 = .ok (.ifCond .eq 7, 3) := by decide +kernel
theorem eX6_work_127 : decode cX6_work 127 = .ok (.iconst 0, 1) := by decide +kernel
theorem eX6_work_128 : decode cX6_work 128 = .ok (.goto 11, 3) := by decide +kernel
theorem eX6_work_131 : decode cX6_work 131 = .ok (.aload_n 0, 1) := by decide +kernel
theorem eX6_work_132 : decode cX6_work 132 = .ok (.aload_n 0, 1) := by decide +kernel
theorem eX6_work_133 : decode cX6_work 133 = .ok (.getfield 50, 3) := by decide +kernel
theorem eX6_work_136 : decode cX6_work 136 = .ok (.invokevirtual 77, 3) := by decide +kernel
theorem eX6_work_139 : decode cX6_work 139 = .ok (.putfield 80, 3) := by decide +kernel
theorem eX6_work_142 : decode cX6_work 142 = .ok (.return_, 1) := by decide +kernel
def C_X6_work (s : ST) (Q : ST → Prop) : Prop := bx <| RA s → q_met mX6_work (qs layX s) [.ref 80] (PV layX Q)
theorem C_X6_work.mono {s : ST} {Q Q' : ST → Prop} (h : C_X6_work s Q) (hq : ∀ s, Q s → Q' s) : C_X6_work s Q' := ⟨fun hA => q_met.mono (h.1 hA) (fun _ _ => PV.mono hq), trivial⟩
def K_X6_work_116 (s : ST) (t1 : Int) (Q : ST → Prop) : Prop := bx <| RA s → R32 t1 → q_K mX6_work (qs layX s) 0 0 116 [(0, .ref 80)] [.int (Int32.ofInt t1), .ref 80] (q_fin mX6_work (PV layX Q))
def K_X6_work_93 (s : ST) (Q : ST → Prop) : Prop := bx <| RA s → q_K mX6_work (qs layX s) 0 0 93 [(0, .ref 80)] [] (q_fin mX6_work (PV layX Q))
def K_X6_work_57 (s : ST) (a1 : Int) (Q : ST → Prop) : Prop := bx <| RA s → R32 a1 → q_K mX6_work (qs layX s) 0 0 57 [(0, .ref 80), (1, .int (Int32.ofInt a1))] [] (q_fin mX6_work (PV layX Q))
set_option maxRecDepth 20000 in
theorem s_X6_work_116 {s : ST} {t1 : Int} {Q : ST → Prop} (h : RA s → R32 t1 → ((s.1 80 14 = 0 → (C_X6_numberOf (ui s 80 0 t1) (s.1 80 13) (fun s1 v1 => Q (ui s1 80 1 v1)))) ∧ (¬ s.1 80 14 = 0 → Q (ui (ui s 80 0 t1) 80 1 0)))) : K_X6_work_116 s t1 Q := by
  refine ⟨?_, trivial⟩
  intro hA hrt1
  have h := h hA hrt1
  refine z_putI (c := 6) (n := 0) (k := 0) (kz := 0) eX6_work_116 rfl (by decide) (by decide) fX6_74 rfl rfl rfl ?_
  refine q_aload_n eX6_work_119 rfl ?_
  refine q_aload_n eX6_work_120 rfl ?_
  refine q_getf (c := 6) (n := 0) (k := 14) (v := .int (Int32.ofInt (s.1 80 14))) eX6_work_121 rfl (by decide) (by decide) fX6_47 rfl ?_
  refine q_iz_eq (tgt := 131) (a := s.1 80 14) eX6_work_124 (by decide) (ofz (hA _ _)) (fun c124 => ?_) (fun c124 => ?_)
  · have h := h.1 c124
    refine q_aload_n eX6_work_131 rfl ?_
    refine q_aload_n eX6_work_132 rfl ?_
    refine q_getf (c := 6) (n := 0) (k := 13) (v := .int (Int32.ofInt (s.1 80 13))) eX6_work_133 rfl (by decide) (by decide) fX6_50 rfl ?_
    refine q_V1 (ci := 6) (n := 0) eX6_work_136 DX6_numberOf lX6_77 rfl (by decide) rfl rfl rfl rfl (h.1 (ra_ui hA hrt1) (hA _ _)) ?_
    rintro _ _ ⟨s1, v1, rfl, hA1, r1, rfl, h⟩
    refine z_putI (c := 6) (n := 0) (k := 1) (kz := 1) eX6_work_139 rfl (by decide) (by decide) fX6_80 rfl rfl rfl ?_
    exact q_ret eX6_work_142 rfl ⟨_, rfl, (ra_ui hA1 r1), rfl, h⟩
  · have h := h.2 c124
    refine q_ic (v := Int32.ofInt 0) eX6_work_127 rfl ?_
    refine q_goto (tgt := 139) eX6_work_128 (by decide) ?_
    refine z_putI (c := 6) (n := 0) (k := 1) (kz := 1) eX6_work_139 rfl (by decide) (by decide) fX6_80 rfl rfl rfl ?_
    exact q_ret eX6_work_142 rfl ⟨_, rfl, (ra_ui (ra_ui hA hrt1) (r32l rfl)), rfl, h⟩
set_option maxRecDepth 20000 in
theorem s_X6_work_93 {s : ST} {Q : ST → Prop} (h : RA s → ((s.1 80 14 = 0 → (P_X6_headOf s (s.1 80 13) ∧ K_X6_work_116 s (F_X6_headOf s (s.1 80 13)) Q)) ∧ (¬ s.1 80 14 = 0 → K_X6_work_116 s (s.1 80 14) Q))) : K_X6_work_93 s Q := by
  refine ⟨?_, trivial⟩
  intro hA
  have h := h hA
  refine q_aload_n eX6_work_93 rfl ?_
  refine q_aload_n eX6_work_94 rfl ?_
  refine q_getf (c := 6) (n := 0) (k := 14) (v := .int (Int32.ofInt (s.1 80 14))) eX6_work_95 rfl (by decide) (by decide) fX6_47 rfl ?_
  refine q_iz_eq (tgt := 108) (a := s.1 80 14) eX6_work_98 (by decide) (ofz (hA _ _)) (fun c98 => ?_) (fun c98 => ?_)
  · have h := h.1 c98
    refine q_aload_n eX6_work_108 rfl ?_
    refine q_aload_n eX6_work_109 rfl ?_
    refine q_getf (c := 6) (n := 0) (k := 13) (v := .int (Int32.ofInt (s.1 80 13))) eX6_work_110 rfl (by decide) (by decide) fX6_50 rfl ?_
    have f2 := h.1
    have h := h.2
    refine q_V1 (ci := 6) (n := 0) eX6_work_113 DX6_headOf lX6_71 rfl (by decide) rfl rfl rfl rfl (p_X6_headOf f2 hA (hA _ _)) ?_
    rintro _ _ ⟨r1, rfl, rfl⟩
    exact q_subL rfl (h.1 hA r1)
  · have h := h.2 c98
    refine q_aload_n eX6_work_101 rfl ?_
    refine q_getf (c := 6) (n := 0) (k := 14) (v := .int (Int32.ofInt (s.1 80 14))) eX6_work_102 rfl (by decide) (by decide) fX6_47 rfl ?_
    refine q_goto (tgt := 116) eX6_work_105 (by decide) ?_
    exact q_subL rfl (h.1 hA (hA _ _))
set_option maxRecDepth 20000 in
theorem s_X6_work_57 {s : ST} {a1 : Int} {Q : ST → Prop} (h : RA s → R32 a1 → ((1000000 ≤ a1 → K_X6_work_93 s Q) ∧ (¬ 1000000 ≤ a1 → ((s.1 80 12 ≤ 0 → K_X6_work_93 s Q) ∧ (¬ s.1 80 12 ≤ 0 → ((¬ s.1 80 14 = 0 → K_X6_work_93 s Q) ∧ (s.1 80 14 = 0 → (R32 (s.1 80 12 - 1) ∧ (C_X6_step s (s.1 80 12 - 1) (fun s2 => (R32 (a1 + 1) ∧ K_X6_work_57 s2 (a1 + 1) Q))))))))))) : K_X6_work_57 s a1 Q := by
  refine ⟨?_, trivial⟩
  intro hA hra1
  have h := h hA hra1
  refine q_iload_n eX6_work_57 rfl ?_
  refine q_ldc (v := 1000000) eX6_work_58 nX6_66 ?_
  refine q_topI (v := Int32.ofInt 1000000) rfl ?_
  refine q_cz_ge (tgt := 93) (a := a1) (b := 1000000) eX6_work_60 (by decide) (ofz hra1) (ofz (r32l rfl)) (fun c60 => ?_) (fun c60 => ?_)
  · have h := h.1 c60
    exact q_subL rfl (h.1 hA)
  · have h := h.2 c60
    refine q_aload_n eX6_work_63 rfl ?_
    refine q_getf (c := 6) (n := 0) (k := 12) (v := .int (Int32.ofInt (s.1 80 12))) eX6_work_64 rfl (by decide) (by decide) fX6_44 rfl ?_
    refine q_iz_le (tgt := 93) (a := s.1 80 12) eX6_work_67 (by decide) (ofz (hA _ _)) (fun c67 => ?_) (fun c67 => ?_)
    · have h := h.1 c67
      exact q_subL rfl (h.1 hA)
    · have h := h.2 c67
      refine q_aload_n eX6_work_70 rfl ?_
      refine q_getf (c := 6) (n := 0) (k := 14) (v := .int (Int32.ofInt (s.1 80 14))) eX6_work_71 rfl (by decide) (by decide) fX6_47 rfl ?_
      refine q_iz_ne (tgt := 93) (a := s.1 80 14) eX6_work_74 (by decide) (ofz (hA _ _)) (fun c74 => ?_) (fun c74 => ?_)
      · have h := h.1 c74
        exact q_subL rfl (h.1 hA)
      · have h := h.2 c74
        refine q_aload_n eX6_work_77 rfl ?_
        refine q_aload_n eX6_work_78 rfl ?_
        refine q_getf (c := 6) (n := 0) (k := 12) (v := .int (Int32.ofInt (s.1 80 12))) eX6_work_79 rfl (by decide) (by decide) fX6_44 rfl ?_
        refine q_ic (v := Int32.ofInt 1) eX6_work_82 rfl ?_
        refine z_isub eX6_work_83 ?_
        have r1 := h.1
        have h := h.2
        refine q_V1 (ci := 6) (n := 0) eX6_work_84 DX6_step lX6_67 rfl (by decide) rfl rfl rfl rfl (h.1 hA r1) ?_
        rintro _ _ ⟨s2, rfl, hA2, rfl, h⟩
        have r3 := h.1
        have h := h.2
        refine z_inc (m := 1) eX6_work_87 rfl (Nat.le_of_ble_eq_true rfl) rfl ?_
        refine q_goto (tgt := 57) eX6_work_90 (by decide) ?_
        exact q_subL rfl (h.1 hA2 r3)
set_option maxRecDepth 20000 in
theorem s_X6_work {s : ST} {Q : ST → Prop} (h : RA s → ((s.1 80 2 = (-1) → (R32 (s.1 2 0 - 1) ∧ (P_X9_rootOf 2 (ui (ui (ui (ui (ui s 80 2 0) 80 7 0) 80 12 0) 80 14 0) 80 13 (-1)) (s.1 2 0 - 1) ∧ (C_X6_enter (ui (ui (ui (ui (ui s 80 2 0) 80 7 0) 80 12 0) 80 14 0) 80 13 (-1)) (F_X9_rootOf 2 (ui (ui (ui (ui (ui s 80 2 0) 80 7 0) 80 12 0) 80 14 0) 80 13 (-1)) (s.1 2 0 - 1)) (-1) (fun s4 => K_X6_work_57 s4 0 Q))))) ∧ (¬ s.1 80 2 = (-1) → Q s))) : C_X6_work s Q := by
  refine ⟨?_, trivial⟩
  intro hA
  have h := h hA
  refine q_enter (by decide) (Nat.le_of_ble_eq_true rfl) ?_
  refine q_aload_n eX6_work_0 rfl ?_
  refine q_getf (c := 6) (n := 0) (k := 2) (v := .int (Int32.ofInt (s.1 80 2))) eX6_work_1 rfl (by decide) (by decide) fX6_9 rfl ?_
  refine q_ic (v := Int32.ofInt (-1)) eX6_work_4 rfl ?_
  refine q_cz_eq (tgt := 9) (a := s.1 80 2) (b := (-1)) eX6_work_5 (by decide) (ofz (hA _ _)) (ofz (r32l rfl)) (fun c5 => ?_) (fun c5 => ?_)
  · have h := h.1 c5
    refine q_aload_n eX6_work_9 rfl ?_
    refine q_ic (v := Int32.ofInt 0) eX6_work_10 rfl ?_
    refine z_putI (c := 6) (n := 0) (k := 2) (kz := 2) eX6_work_11 rfl (by decide) (by decide) fX6_9 rfl rfl rfl ?_
    refine q_aload_n eX6_work_14 rfl ?_
    refine q_ic (v := Int32.ofInt 0) eX6_work_15 rfl ?_
    refine z_putI (c := 6) (n := 0) (k := 7) (kz := 7) eX6_work_16 rfl (by decide) (by decide) fX6_41 rfl rfl rfl ?_
    refine q_aload_n eX6_work_19 rfl ?_
    refine q_ic (v := Int32.ofInt 0) eX6_work_20 rfl ?_
    refine z_putI (c := 6) (n := 0) (k := 12) (kz := 12) eX6_work_21 rfl (by decide) (by decide) fX6_44 rfl rfl rfl ?_
    refine q_aload_n eX6_work_24 rfl ?_
    refine q_ic (v := Int32.ofInt 0) eX6_work_25 rfl ?_
    refine z_putI (c := 6) (n := 0) (k := 14) (kz := 14) eX6_work_26 rfl (by decide) (by decide) fX6_47 rfl rfl rfl ?_
    refine q_aload_n eX6_work_29 rfl ?_
    refine q_ic (v := Int32.ofInt (-1)) eX6_work_30 rfl ?_
    refine z_putI (c := 6) (n := 0) (k := 13) (kz := 13) eX6_work_31 rfl (by decide) (by decide) fX6_50 rfl rfl rfl ?_
    refine q_aload_n eX6_work_34 rfl ?_
    refine q_aload_n eX6_work_35 rfl ?_
    refine q_getR (c := 6) (n := 0) (k := 3) (a := 2) eX6_work_36 rfl (by decide) (by decide) fX6_37 rfl rfl ?_
    refine q_aload_n eX6_work_39 rfl ?_
    refine q_getR (c := 6) (n := 0) (k := 3) (a := 2) eX6_work_40 rfl (by decide) (by decide) fX6_37 rfl rfl ?_
    refine q_getf (c := 9) (n := 0) (k := 0) (v := .int (Int32.ofInt (s.1 2 0))) eX6_work_43 rfl (by decide) (by decide) fX6_53 rfl ?_
    refine q_ic (v := Int32.ofInt 1) eX6_work_46 rfl ?_
    refine z_isub eX6_work_47 ?_
    have r1 := h.1
    have h := h.2
    have f3 := h.1
    have h := h.2
    refine q_V1 (ci := 9) (n := 0) eX6_work_48 DX9_rootOf lX6_58 rfl (by decide) rfl rfl rfl rfl (p_X9_rootOf f3 (by decide) (ra_ui (ra_ui (ra_ui (ra_ui (ra_ui hA (r32l rfl)) (r32l rfl)) (r32l rfl)) (r32l rfl)) (r32l rfl)) r1) ?_
    rintro _ _ ⟨r2, rfl, rfl⟩
    refine q_ic (v := Int32.ofInt (-1)) eX6_work_51 rfl ?_
    refine q_V2 (ci := 6) (n := 0) eX6_work_52 DX6_enter lX6_62 rfl (by decide) rfl rfl rfl rfl (h.1 (ra_ui (ra_ui (ra_ui (ra_ui (ra_ui hA (r32l rfl)) (r32l rfl)) (r32l rfl)) (r32l rfl)) (r32l rfl)) r2 (r32l rfl)) ?_
    rintro _ _ ⟨s4, rfl, hA4, rfl, h⟩
    refine q_ic (v := Int32.ofInt 0) eX6_work_55 rfl ?_
    refine q_istore_n eX6_work_56 (Nat.le_of_ble_eq_true rfl) ?_
    exact q_subL rfl (h.1 hA4 (r32l rfl))
  · have h := h.2 c5
    exact q_ret eX6_work_8 rfl ⟨_, rfl, hA, rfl, h⟩
theorem eX7_signAt_0 : decode cX7_signAt 0 = .ok (.iload_n 1, 1) := by decide +kernel
theorem eX7_signAt_1 : decode cX7_signAt 1 = .ok (.ifCond .lt 33, 3) := by decide +kernel
theorem eX7_signAt_4 : decode cX7_signAt 4 = .ok (.iload_n 1, 1) := by decide +kernel
theorem eX7_signAt_5 : decode cX7_signAt 5 = .ok (.aload_n 0, 1) := by decide +kernel
theorem eX7_signAt_6 : decode cX7_signAt 6 = .ok (.getfield 53, 3) := by decide +kernel
theorem eX7_signAt_9 : decode cX7_signAt 9 = .ok (.if_icmp .ge 25, 3) := by decide +kernel
theorem eX7_signAt_12 : decode cX7_signAt 12 = .ok (.iload_n 1, 1) := by decide +kernel
theorem eX7_signAt_13 : decode cX7_signAt 13 = .ok (.aload_n 0, 1) := by decide +kernel
theorem eX7_signAt_14 : decode cX7_signAt 14 = .ok (.getfield 29, 3) := by decide +kernel
theorem eX7_signAt_17 : decode cX7_signAt 17 = .ok (.arraylength, 1) := by decide +kernel
theorem eX7_signAt_18 : decode cX7_signAt 18 = .ok (.if_icmp .ge 16, 3) := by decide +kernel
theorem eX7_signAt_21 : decode cX7_signAt 21 = .ok (.aload_n 0, 1) := by decide +kernel
theorem eX7_signAt_22 : decode cX7_signAt 22 = .ok (.getfield 29, 3) := by decide +kernel
theorem eX7_signAt_25 : decode cX7_signAt 25 = .ok (.iload_n 1, 1) := by decide +kernel
theorem eX7_signAt_26 : decode cX7_signAt 26 = .ok (.baload, 1) := by decide +kernel
theorem eX7_signAt_27 : decode cX7_signAt 27 = .ok (.sipush 255, 3) := by decide +kernel
theorem eX7_signAt_30 : decode cX7_signAt 30 = .ok (.iand, 1) := by decide +kernel
theorem eX7_signAt_31 : decode cX7_signAt 31 = .ok (.goto 4, 3) := by decide +kernel
theorem eX7_signAt_34 : decode cX7_signAt 34 = .ok (.iconst (-1), 1) := by decide +kernel
theorem eX7_signAt_35 : decode cX7_signAt 35 = .ok (.ireturn, 1) := by decide +kernel
def C_X7_signAt (s : ST) (p : Int) (Q : ST → Int → Prop) : Prop := bx <| RA s → R32 p → q_met mX7_signAt (qs layX s) [.ref 46, .int (Int32.ofInt p)] (PI layX Q)
theorem C_X7_signAt.mono {s : ST} {p : Int} {Q Q' : ST → Int → Prop} (h : C_X7_signAt s p Q) (hq : ∀ s v, Q s v → Q' s v) : C_X7_signAt s p Q' := ⟨fun hA hrp => q_met.mono (h.1 hA hrp) (fun _ _ => PI.mono hq), trivial⟩
set_option maxRecDepth 20000 in
theorem s_X7_signAt {s : ST} {p : Int} {Q : ST → Int → Prop} (h : RA s → R32 p → ((p < 0 → Q s (-1)) ∧ (¬ p < 0 → ((s.1 46 3 ≤ p → Q s (-1)) ∧ (¬ s.1 46 3 ≤ p → ((1600 ≤ p → Q s (-1)) ∧ (¬ 1600 ≤ p → (((0 : Int) ≤ p ∧ p < 1600) ∧ Q s (iand (s.1 1 p) 255))))))))) : C_X7_signAt s p Q := by
  refine ⟨?_, trivial⟩
  intro hA hrp
  have h := h hA hrp
  refine q_enter (by decide) (Nat.le_of_ble_eq_true rfl) ?_
  refine q_iload_n eX7_signAt_0 rfl ?_
  refine q_iz_lt (tgt := 34) (a := p) eX7_signAt_1 (by decide) (ofz hrp) (fun c1 => ?_) (fun c1 => ?_)
  · have h := h.1 c1
    refine q_ic (v := Int32.ofInt (-1)) eX7_signAt_34 rfl ?_
    exact q_iret eX7_signAt_35 rfl ⟨_, _, rfl, hA, (r32l rfl), rfl, h⟩
  · have h := h.2 c1
    refine q_iload_n eX7_signAt_4 rfl ?_
    refine q_aload_n eX7_signAt_5 rfl ?_
    refine q_getf (c := 7) (n := 0) (k := 3) (v := .int (Int32.ofInt (s.1 46 3))) eX7_signAt_6 rfl (by decide) (by decide) fX7_53 rfl ?_
    refine q_cz_ge (tgt := 34) (a := p) (b := s.1 46 3) eX7_signAt_9 (by decide) (ofz hrp) (ofz (hA _ _)) (fun c9 => ?_) (fun c9 => ?_)
    · have h := h.1 c9
      refine q_ic (v := Int32.ofInt (-1)) eX7_signAt_34 rfl ?_
      exact q_iret eX7_signAt_35 rfl ⟨_, _, rfl, hA, (r32l rfl), rfl, h⟩
    · have h := h.2 c9
      refine q_iload_n eX7_signAt_12 rfl ?_
      refine q_aload_n eX7_signAt_13 rfl ?_
      refine q_getR (c := 7) (n := 0) (k := 2) (a := 1) eX7_signAt_14 rfl (by decide) (by decide) fX7_29 rfl rfl ?_
      refine q_alenz (v := Int32.ofInt 1600) eX7_signAt_17 rfl rfl rfl ?_
      refine q_cz_ge (tgt := 34) (a := p) (b := 1600) eX7_signAt_18 (by decide) (ofz hrp) (ofz (r32l rfl)) (fun c18 => ?_) (fun c18 => ?_)
      · have h := h.1 c18
        refine q_ic (v := Int32.ofInt (-1)) eX7_signAt_34 rfl ?_
        exact q_iret eX7_signAt_35 rfl ⟨_, _, rfl, hA, (r32l rfl), rfl, h⟩
      · have h := h.2 c18
        refine q_aload_n eX7_signAt_21 rfl ?_
        refine q_getR (c := 7) (n := 0) (k := 2) (a := 1) eX7_signAt_22 rfl (by decide) (by decide) fX7_29 rfl rfl ?_
        refine q_iload_n eX7_signAt_25 rfl ?_
        have f1 := h.1
        have h := h.2
        refine z_bald (n := 1600) eX7_signAt_26 rfl (ofz hrp) f1 ?_
        refine q_topI (v := Int32.ofInt (s.1 1 p)) rfl ?_
        refine q_si (v := Int32.ofInt 255) eX7_signAt_27 rfl ?_
        refine z_iand eX7_signAt_30 ?_
        refine q_goto (tgt := 35) eX7_signAt_31 (by decide) ?_
        exact q_iret eX7_signAt_35 rfl ⟨_, _, rfl, hA, (iand_r _ _), rfl, h⟩
def F_X7_signAt (s : ST) (p : Int) : Int := (if p < 0 then (-1) else (if s.1 46 3 ≤ p then (-1) else (if 1600 ≤ p then (-1) else (iand (s.1 1 p) 255))))
abbrev P_X7_signAt (s : ST) (p : Int) : Prop := (¬ p < 0 → (¬ s.1 46 3 ≤ p → (¬ 1600 ≤ p → ((0 : Int) ≤ p ∧ p < 1600))))
theorem w_X7_signAt {s : ST} {p : Int} (h : P_X7_signAt s p) : C_X7_signAt s p (fun s' v => s' = s ∧ v = F_X7_signAt s p) := by
  refine s_X7_signAt (fun hA hrp => ?_)
  unfold P_X7_signAt at h
  refine ⟨fun e0 => ?_, fun e0 => ?_⟩
  · exact ⟨rfl, by unfold F_X7_signAt; rw [if_pos e0]⟩
  · have h := h e0
    refine ⟨fun e1 => ?_, fun e1 => ?_⟩
    · exact ⟨rfl, by unfold F_X7_signAt; rw [if_neg e0, if_pos e1]⟩
    · have h := h e1
      refine ⟨fun e2 => ?_, fun e2 => ?_⟩
      · exact ⟨rfl, by unfold F_X7_signAt; rw [if_neg e0, if_neg e1, if_pos e2]⟩
      · have h := h e2
        refine ⟨h, ?_⟩
        exact ⟨rfl, by unfold F_X7_signAt; rw [if_neg e0, if_neg e1, if_neg e2]⟩
theorem p_X7_signAt {s : ST} {p : Int} (h : P_X7_signAt s p) : RA s → R32 p → q_met mX7_signAt (qs layX s) [.ref 46, .int (Int32.ofInt p)] (fun σ r => R32 (F_X7_signAt s p) ∧ σ = qs layX s ∧ r = some (.int (Int32.ofInt (F_X7_signAt s p)))) := fun hA hrp => q_met.mono ((w_X7_signAt h).1 hA hrp) (by
  rintro _ _ ⟨s1, v1, rfl, h1, h2, rfl, rfl, rfl⟩
  exact ⟨h2, rfl, rfl⟩)
theorem eX7_isBlank_0 : decode cX7_isBlank 0 = .ok (.iload_n 0, 1) := by decide +kernel
theorem eX7_isBlank_1 : decode cX7_isBlank 1 = .ok (.bipush 32, 2) := by decide +kernel
theorem eX7_isBlank_3 : decode cX7_isBlank 3 = .ok (.if_icmp .eq 9, 3) := by decide +kernel
theorem eX7_isBlank_6 : decode cX7_isBlank 6 = .ok (.iload_n 0, 1) := by decide +kernel
theorem eX7_isBlank_7 : decode cX7_isBlank 7 = .ok (.bipush 10, 2) := by decide +kernel
theorem eX7_isBlank_9 : decode cX7_isBlank 9 = .ok (.if_icmp .ne 7, 3) := by decide +kernel
theorem eX7_isBlank_12 : decode cX7_isBlank 12 = .ok (.iconst 1, 1) := by decide +kernel
theorem eX7_isBlank_13 : decode cX7_isBlank 13 = .ok (.goto 4, 3) := by decide +kernel
theorem eX7_isBlank_16 : decode cX7_isBlank 16 = .ok (.iconst 0, 1) := by decide +kernel
theorem eX7_isBlank_17 : decode cX7_isBlank 17 = .ok (.ireturn, 1) := by decide +kernel
def C_X7_isBlank (s : ST) (p : Int) (Q : ST → Int → Prop) : Prop := bx <| RA s → R32 p → q_met mX7_isBlank (qs layX s) [.int (Int32.ofInt p)] (PB layX Q)
theorem C_X7_isBlank.mono {s : ST} {p : Int} {Q Q' : ST → Int → Prop} (h : C_X7_isBlank s p Q) (hq : ∀ s v, Q s v → Q' s v) : C_X7_isBlank s p Q' := ⟨fun hA hrp => q_met.mono (h.1 hA hrp) (fun _ _ => PB.mono hq), trivial⟩
set_option maxRecDepth 20000 in
theorem s_X7_isBlank {s : ST} {p : Int} {Q : ST → Int → Prop} (h : RA s → R32 p → ((p = 32 → Q s 1) ∧ (¬ p = 32 → ((¬ p = 10 → Q s 0) ∧ (p = 10 → Q s 1))))) : C_X7_isBlank s p Q := by
  refine ⟨?_, trivial⟩
  intro hA hrp
  have h := h hA hrp
  refine q_enter (by decide) (Nat.le_of_ble_eq_true rfl) ?_
  refine q_iload_n eX7_isBlank_0 rfl ?_
  refine q_bi (v := Int32.ofInt 32) eX7_isBlank_1 rfl ?_
  refine q_cz_eq (tgt := 12) (a := p) (b := 32) eX7_isBlank_3 (by decide) (ofz hrp) (ofz (r32l rfl)) (fun c3 => ?_) (fun c3 => ?_)
  · have h := h.1 c3
    refine q_ic (v := Int32.ofInt 1) eX7_isBlank_12 rfl ?_
    refine q_goto (tgt := 17) eX7_isBlank_13 (by decide) ?_
    exact q_zret eX7_isBlank_17 rfl (z01 (Or.inr rfl)) ⟨_, _, rfl, hA, (Or.inr rfl), rfl, h⟩
  · have h := h.2 c3
    refine q_iload_n eX7_isBlank_6 rfl ?_
    refine q_bi (v := Int32.ofInt 10) eX7_isBlank_7 rfl ?_
    refine q_cz_ne (tgt := 16) (a := p) (b := 10) eX7_isBlank_9 (by decide) (ofz hrp) (ofz (r32l rfl)) (fun c9 => ?_) (fun c9 => ?_)
    · have h := h.1 c9
      refine q_ic (v := Int32.ofInt 0) eX7_isBlank_16 rfl ?_
      exact q_zret eX7_isBlank_17 rfl (z01 (Or.inl rfl)) ⟨_, _, rfl, hA, (Or.inl rfl), rfl, h⟩
    · have h := h.2 c9
      refine q_ic (v := Int32.ofInt 1) eX7_isBlank_12 rfl ?_
      refine q_goto (tgt := 17) eX7_isBlank_13 (by decide) ?_
      exact q_zret eX7_isBlank_17 rfl (z01 (Or.inr rfl)) ⟨_, _, rfl, hA, (Or.inr rfl), rfl, h⟩
def F_X7_isBlank (s : ST) (p : Int) : Int := (if p = 32 then 1 else (if p = 10 then 1 else 0))
theorem w_X7_isBlank {s : ST} {p : Int} : C_X7_isBlank s p (fun s' v => s' = s ∧ v = F_X7_isBlank s p) := by
  refine s_X7_isBlank (fun hA hrp => ?_)
  refine ⟨fun e0 => ?_, fun e0 => ?_⟩
  · exact ⟨rfl, by unfold F_X7_isBlank; rw [if_pos e0]⟩
  · refine ⟨fun e1 => ?_, fun e1 => ?_⟩
    · exact ⟨rfl, by unfold F_X7_isBlank; rw [if_neg e0, if_neg e1]⟩
    · exact ⟨rfl, by unfold F_X7_isBlank; rw [if_neg e0, if_pos e1]⟩
theorem p_X7_isBlank {s : ST} {p : Int} : RA s → R32 p → q_met mX7_isBlank (qs layX s) [.int (Int32.ofInt p)] (fun σ r => (F_X7_isBlank s p = 0 ∨ F_X7_isBlank s p = 1) ∧ σ = qs layX s ∧ r = some (.int (Int32.ofInt (F_X7_isBlank s p)))) := fun hA hrp => q_met.mono ((w_X7_isBlank).1 hA hrp) (by
  rintro _ _ ⟨s1, v1, rfl, h1, h2, rfl, rfl, rfl⟩
  exact ⟨h2, rfl, rfl⟩)
theorem n_X7_isBlank {s : ST} {p : Int} : ¬ F_X7_isBlank s p = 0 ↔ (p = 32 ∨ p = 10) := by
  unfold F_X7_isBlank
  first | omega | ((repeat' split) <;> simp_all) | ((repeat' split) <;> (simp_all <;> omega))
