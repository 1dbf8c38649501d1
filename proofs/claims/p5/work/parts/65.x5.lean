/-! STEP ROWS of the class. By program (wip/wp/gen_parts.py). -/
theorem eX5_mark_0 : decode cX5_mark 0 = .ok (.iload_n 1, 1) := by decide +kernel
theorem eX5_mark_1 : decode cX5_mark 1 = .ok (.ifCond .lt 18, 3) := by decide +kernel
theorem eX5_mark_4 : decode cX5_mark 4 = .ok (.iload_n 1, 1) := by decide +kernel
theorem eX5_mark_5 : decode cX5_mark 5 = .ok (.sipush 4096, 3) := by decide +kernel
theorem eX5_mark_8 : decode cX5_mark 8 = .ok (.if_icmp .ge 11, 3) := by decide +kernel
theorem eX5_mark_11 : decode cX5_mark 11 = .ok (.aload_n 0, 1) := by decide +kernel
theorem eX5_mark_12 : decode cX5_mark 12 = .ok (.getfield 11, 3) := by decide +kernel
theorem eX5_mark_15 : decode cX5_mark 15 = .ok (.iload_n 1, 1) := by decide +kernel
theorem eX5_mark_16 : decode cX5_mark 16 = .ok (.iload_n 2, 1) := by decide +kernel
theorem eX5_mark_17 : decode cX5_mark 17 = .ok (.i2b, 1) := by decide +kernel
theorem eX5_mark_18 : decode cX5_mark 18 = .ok (.bastore, 1) := by decide +kernel
theorem eX5_mark_19 : decode cX5_mark 19 = .ok (.return_, 1) := by decide +kernel
def C_X5_mark (s : ST) (p : Int) (q : Int) (Q : ST → Prop) : Prop := bx <| RA s → R32 p → R32 q → q_met mX5_mark (qs layX s) [.ref 67, .int (Int32.ofInt p), .int (Int32.ofInt q)] (PV layX Q)
theorem C_X5_mark.mono {s : ST} {p : Int} {q : Int} {Q Q' : ST → Prop} (h : C_X5_mark s p q Q) (hq : ∀ s, Q s → Q' s) : C_X5_mark s p q Q' := ⟨fun hA hrp hrq => q_met.mono (h.1 hA hrp hrq) (fun _ _ => PV.mono hq), trivial⟩
set_option maxRecDepth 20000 in
theorem s_X5_mark {s : ST} {p : Int} {q : Int} {Q : ST → Prop} (h : RA s → R32 p → R32 q → ((p < 0 → Q s) ∧ (¬ p < 0 → ((4096 ≤ p → Q s) ∧ (¬ 4096 ≤ p → (((0 : Int) ≤ p ∧ p < 4096) ∧ Q (ui s 68 p (i8 (i8 q))))))))) : C_X5_mark s p q Q := by
  refine ⟨?_, trivial⟩
  intro hA hrp hrq
  have h := h hA hrp hrq
  refine q_enter (by decide) (Nat.le_of_ble_eq_true rfl) ?_
  refine q_iload_n eX5_mark_0 rfl ?_
  refine q_iz_lt (tgt := 19) (a := p) eX5_mark_1 (by decide) (ofz hrp) (fun c1 => ?_) (fun c1 => ?_)
  · have h := h.1 c1
    exact q_ret eX5_mark_19 rfl ⟨_, rfl, hA, rfl, h⟩
  · have h := h.2 c1
    refine q_iload_n eX5_mark_4 rfl ?_
    refine q_si (v := Int32.ofInt 4096) eX5_mark_5 rfl ?_
    refine q_cz_ge (tgt := 19) (a := p) (b := 4096) eX5_mark_8 (by decide) (ofz hrp) (ofz (r32l rfl)) (fun c8 => ?_) (fun c8 => ?_)
    · have h := h.1 c8
      exact q_ret eX5_mark_19 rfl ⟨_, rfl, hA, rfl, h⟩
    · have h := h.2 c8
      refine q_aload_n eX5_mark_11 rfl ?_
      refine q_getR (c := 5) (n := 0) (k := 5) (a := 68) eX5_mark_12 rfl (by decide) (by decide) fX5_11 rfl rfl ?_
      refine q_iload_n eX5_mark_15 rfl ?_
      refine q_iload_n eX5_mark_16 rfl ?_
      refine z_i2b eX5_mark_17 ?_
      have f1 := h.1
      have h := h.2
      refine z_bast (n := 4096) eX5_mark_18 rfl (ofz hrp) f1  ?_
      exact q_ret eX5_mark_19 rfl ⟨_, rfl, (ra_ui hA (i8_r _)), rfl, h⟩
theorem eX5_markAbove_0 : decode cX5_markAbove 0 = .ok (.aload_n 0, 1) := by decide +kernel
theorem eX5_markAbove_1 : decode cX5_markAbove 1 = .ok (.dup, 1) := by decide +kernel
theorem eX5_markAbove_2 : decode cX5_markAbove 2 = .ok (.getfield 27, 3) := by decide +kernel
theorem eX5_markAbove_5 : decode cX5_markAbove 5 = .ok (.iconst 1, 1) := by decide +kernel
theorem eX5_markAbove_6 : decode cX5_markAbove 6 = .ok (.iadd, 1) := by decide +kernel
theorem eX5_markAbove_7 : decode cX5_markAbove 7 = .ok (.putfield 27, 3) := by decide +kernel
theorem eX5_markAbove_10 : decode cX5_markAbove 10 = .ok (.aload_n 0, 1) := by decide +kernel
theorem eX5_markAbove_11 : decode cX5_markAbove 11 = .ok (.getfield 23, 3) := by decide +kernel
theorem eX5_markAbove_14 : decode cX5_markAbove 14 = .ok (.iload_n 1, 1) := by decide +kernel
theorem eX5_markAbove_15 : decode cX5_markAbove 15 = .ok (.iconst (-1), 1) := by decide +kernel
theorem eX5_markAbove_16 : decode cX5_markAbove 16 = .ok (.ixor, 1) := by decide +kernel
theorem eX5_markAbove_17 : decode cX5_markAbove 17 = .ok (.iand, 1) := by decide +kernel
theorem eX5_markAbove_18 : decode cX5_markAbove 18 = .ok (.istore_n 2, 1) := by decide +kernel
theorem eX5_markAbove_19 : decode cX5_markAbove 19 = .ok (.iload_n 2, 1) := by decide +kernel
theorem eX5_markAbove_20 : decode cX5_markAbove 20 = .ok (.istore_n 3, 1) := by decide +kernel
theorem eX5_markAbove_21 : decode cX5_markAbove 21 = .ok (.iconst 0, 1) := by decide +kernel
theorem eX5_markAbove_22 : decode cX5_markAbove 22 = .ok (.istore 4, 2) := by decide +kernel
theorem eX5_markAbove_24 : decode cX5_markAbove 24 = .ok (.iload 4, 2) := by decide +kernel
theorem eX5_markAbove_26 : decode cX5_markAbove 26 = .ok (.sipush 4096, 3) := by decide +kernel
theorem eX5_markAbove_29 : decode cX5_markAbove 29 = .ok (.if_icmp .ge 27, 3) := by decide +kernel
theorem eX5_markAbove_32 : decode cX5_markAbove 32 = .ok (.iload_n 3, 1) := by decide +kernel
theorem eX5_markAbove_33 : decode cX5_markAbove 33 = .ok (.ifCond .le 23, 3) := by decide +kernel
theorem eX5_markAbove_36 : decode cX5_markAbove 36 = .ok (.aload_n 0, 1) := by decide +kernel
theorem eX5_markAbove_37 : decode cX5_markAbove 37 = .ok (.iload_n 1, 1) := by decide +kernel
theorem eX5_markAbove_38 : decode cX5_markAbove 38 = .ok (.iload_n 3, 1) := by decide +kernel
theorem eX5_markAbove_39 : decode cX5_markAbove 39 = .ok (.ior, 1) := by decide +kernel
theorem eX5_markAbove_40 : decode cX5_markAbove 40 = .ok (.iconst 2, 1) := by decide +kernel
theorem eX5_markAbove_41 : decode cX5_markAbove 41 = .ok (.invokevirtual 50, 3) := by decide +kernel
theorem eX5_markAbove_44 : decode cX5_markAbove 44 = .ok (.iload_n 3, 1) := by decide +kernel
theorem eX5_markAbove_45 : decode cX5_markAbove 45 = .ok (.iconst 1, 1) := by decide +kernel
theorem eX5_markAbove_46 : decode cX5_markAbove 46 = .ok (.isub, 1) := by decide +kernel
theorem eX5_markAbove_47 : decode cX5_markAbove 47 = .ok (.iload_n 2, 1) := by decide +kernel
theorem eX5_markAbove_48 : decode cX5_markAbove 48 = .ok (.iand, 1) := by decide +kernel
theorem eX5_markAbove_49 : decode cX5_markAbove 49 = .ok (.istore_n 3, 1) := by decide +kernel
theorem eX5_markAbove_50 : decode cX5_markAbove 50 = .ok (.iinc 4 1, 3) := by decide +kernel
theorem eX5_markAbove_53 : decode cX5_markAbove 53 = .ok (.goto (-29), 3) := by decide +kernel
theorem eX5_markAbove_56 : decode cX5_markAbove 56 = .ok (.aload_n 0, 1) := by decide +kernel
theorem eX5_markAbove_57 : decode cX5_markAbove 57 = .ok (.iload_n 1, 1) := by decide +kernel
theorem eX5_markAbove_58 : decode cX5_markAbove 58 = .ok (.iconst 3, 1) := by decide +kernel
theorem eX5_markAbove_59 : decode cX5_markAbove 59 = .ok (.invokevirtual 50, 3) := by decide +kernel
theorem eX5_markAbove_62 : decode cX5_markAbove 62 = .ok (.return_, 1) := by decide +kernel
def C_X5_markAbove (s : ST) (p : Int) (Q : ST → Prop) : Prop := bx <| RA s → R32 p → q_met mX5_markAbove (qs layX s) [.ref 67, .int (Int32.ofInt p)] (PV layX Q)
theorem C_X5_markAbove.mono {s : ST} {p : Int} {Q Q' : ST → Prop} (h : C_X5_markAbove s p Q) (hq : ∀ s, Q s → Q' s) : C_X5_markAbove s p Q' := ⟨fun hA hrp => q_met.mono (h.1 hA hrp) (fun _ _ => PV.mono hq), trivial⟩
def K_X5_markAbove_56 (s : ST) (a1 : Int) (Q : ST → Prop) : Prop := bx <| RA s → R32 a1 → q_K mX5_markAbove (qs layX s) 0 0 56 [(0, .ref 67), (1, .int (Int32.ofInt a1))] [] (q_fin mX5_markAbove (PV layX Q))
def K_X5_markAbove_24 (s : ST) (a1 : Int) (a2 : Int) (a3 : Int) (a4 : Int) (Q : ST → Prop) : Prop := bx <| RA s → R32 a1 → R32 a2 → R32 a3 → R32 a4 → q_K mX5_markAbove (qs layX s) 0 0 24 [(0, .ref 67), (1, .int (Int32.ofInt a1)), (2, .int (Int32.ofInt a2)), (3, .int (Int32.ofInt a3)), (4, .int (Int32.ofInt a4))] [] (q_fin mX5_markAbove (PV layX Q))
set_option maxRecDepth 20000 in
theorem s_X5_markAbove_56 {s : ST} {a1 : Int} {Q : ST → Prop} (h : RA s → R32 a1 → (C_X5_mark s a1 3 (fun s1 => Q s1))) : K_X5_markAbove_56 s a1 Q := by
  refine ⟨?_, trivial⟩
  intro hA hra1
  have h := h hA hra1
  refine q_aload_n eX5_markAbove_56 rfl ?_
  refine q_iload_n eX5_markAbove_57 rfl ?_
  refine q_ic (v := Int32.ofInt 3) eX5_markAbove_58 rfl ?_
  refine q_V2 (ci := 5) (n := 0) eX5_markAbove_59 DX5_mark lX5_50 rfl (by decide) rfl rfl rfl rfl (h.1 hA hra1 (r32l rfl)) ?_
  rintro _ _ ⟨s1, rfl, hA1, rfl, h⟩
  exact q_ret eX5_markAbove_62 rfl ⟨_, rfl, hA1, rfl, h⟩
set_option maxRecDepth 20000 in
theorem s_X5_markAbove_24 {s : ST} {a1 : Int} {a2 : Int} {a3 : Int} {a4 : Int} {Q : ST → Prop} (h : RA s → R32 a1 → R32 a2 → R32 a3 → R32 a4 → ((4096 ≤ a4 → K_X5_markAbove_56 s a1 Q) ∧ (¬ 4096 ≤ a4 → ((a3 ≤ 0 → K_X5_markAbove_56 s a1 Q) ∧ (¬ a3 ≤ 0 → (C_X5_mark s (ior a1 a3) 2 (fun s1 => (R32 (a3 - 1) ∧ (R32 (a4 + 1) ∧ K_X5_markAbove_24 s1 a1 a2 (iand (a3 - 1) a2) (a4 + 1) Q))))))))) : K_X5_markAbove_24 s a1 a2 a3 a4 Q := by
  refine ⟨?_, trivial⟩
  intro hA hra1 hra2 hra3 hra4
  have h := h hA hra1 hra2 hra3 hra4
  refine q_iload eX5_markAbove_24 rfl ?_
  refine q_si (v := Int32.ofInt 4096) eX5_markAbove_26 rfl ?_
  refine q_cz_ge (tgt := 56) (a := a4) (b := 4096) eX5_markAbove_29 (by decide) (ofz hra4) (ofz (r32l rfl)) (fun c29 => ?_) (fun c29 => ?_)
  · have h := h.1 c29
    exact q_subL rfl (h.1 hA hra1)
  · have h := h.2 c29
    refine q_iload_n eX5_markAbove_32 rfl ?_
    refine q_iz_le (tgt := 56) (a := a3) eX5_markAbove_33 (by decide) (ofz hra3) (fun c33 => ?_) (fun c33 => ?_)
    · have h := h.1 c33
      exact q_subL rfl (h.1 hA hra1)
    · have h := h.2 c33
      refine q_aload_n eX5_markAbove_36 rfl ?_
      refine q_iload_n eX5_markAbove_37 rfl ?_
      refine q_iload_n eX5_markAbove_38 rfl ?_
      refine z_ior eX5_markAbove_39 ?_
      refine q_ic (v := Int32.ofInt 2) eX5_markAbove_40 rfl ?_
      refine q_V2 (ci := 5) (n := 0) eX5_markAbove_41 DX5_mark lX5_50 rfl (by decide) rfl rfl rfl rfl (h.1 hA (ior_r _ _) (r32l rfl)) ?_
      rintro _ _ ⟨s1, rfl, hA1, rfl, h⟩
      refine q_iload_n eX5_markAbove_44 rfl ?_
      refine q_ic (v := Int32.ofInt 1) eX5_markAbove_45 rfl ?_
      refine z_isub eX5_markAbove_46 ?_
      have r2 := h.1
      have h := h.2
      refine q_iload_n eX5_markAbove_47 rfl ?_
      refine z_iand eX5_markAbove_48 ?_
      refine q_istore_n eX5_markAbove_49 (Nat.le_of_ble_eq_true rfl) ?_
      have r3 := h.1
      have h := h.2
      refine z_inc (m := 1) eX5_markAbove_50 rfl (Nat.le_of_ble_eq_true rfl) rfl ?_
      refine q_goto (tgt := 24) eX5_markAbove_53 (by decide) ?_
      exact q_subL rfl (h.1 hA1 hra1 hra2 (iand_r _ _) r3)
set_option maxRecDepth 20000 in
theorem s_X5_markAbove {s : ST} {p : Int} {Q : ST → Prop} (h : RA s → R32 p → K_X5_markAbove_24 (ui s 67 1 (w32 (s.1 67 1 + 1))) p (iand (s.1 67 3) (ixor p (-1))) (iand (s.1 67 3) (ixor p (-1))) 0 Q) : C_X5_markAbove s p Q := by
  refine ⟨?_, trivial⟩
  intro hA hrp
  have h := h hA hrp
  refine q_enter (by decide) (Nat.le_of_ble_eq_true rfl) ?_
  refine q_aload_n eX5_markAbove_0 rfl ?_
  refine q_dup eX5_markAbove_1 rfl ?_
  refine q_getf (c := 5) (n := 0) (k := 1) (v := .int (Int32.ofInt (s.1 67 1))) eX5_markAbove_2 rfl (by decide) (by decide) fX5_27 rfl ?_
  refine q_ic (v := Int32.ofInt 1) eX5_markAbove_5 rfl ?_
  refine z_iadd eX5_markAbove_6 ?_
  refine q_topI (v := Int32.ofInt (w32 (s.1 67 1 + 1))) (w32_of _).symm ?_
  refine z_putI (c := 5) (n := 0) (k := 1) (kz := 1) eX5_markAbove_7 rfl (by decide) (by decide) fX5_27 rfl rfl rfl ?_
  refine q_aload_n eX5_markAbove_10 rfl ?_
  refine q_getf (c := 5) (n := 0) (k := 3) (v := .int (Int32.ofInt (s.1 67 3))) eX5_markAbove_11 rfl (by decide) (by decide) fX5_23 rfl ?_
  refine q_iload_n eX5_markAbove_14 rfl ?_
  refine q_ic (v := Int32.ofInt (-1)) eX5_markAbove_15 rfl ?_
  refine z_ixor eX5_markAbove_16 ?_
  refine z_iand eX5_markAbove_17 ?_
  refine q_istore_n eX5_markAbove_18 (Nat.le_of_ble_eq_true rfl) ?_
  refine q_iload_n eX5_markAbove_19 rfl ?_
  refine q_istore_n eX5_markAbove_20 (Nat.le_of_ble_eq_true rfl) ?_
  refine q_ic (v := Int32.ofInt 0) eX5_markAbove_21 rfl ?_
  refine q_istore eX5_markAbove_22 (Nat.le_of_ble_eq_true rfl) ?_
  exact q_subL rfl (h.1 (ra_ui hA (w32_r _)) hrp (iand_r _ _) (iand_r _ _) (r32l rfl))
theorem eX5_grown_0 : decode cX5_grown 0 = .ok (.iload_n 1, 1) := by decide +kernel
theorem eX5_grown_1 : decode cX5_grown 1 = .ok (.istore_n 2, 1) := by decide +kernel
theorem eX5_grown_2 : decode cX5_grown 2 = .ok (.iconst 0, 1) := by decide +kernel
theorem eX5_grown_3 : decode cX5_grown 3 = .ok (.istore_n 3, 1) := by decide +kernel
theorem eX5_grown_4 : decode cX5_grown 4 = .ok (.iload_n 3, 1) := by decide +kernel
theorem eX5_grown_5 : decode cX5_grown 5 = .ok (.bipush 12, 2) := by decide +kernel
theorem eX5_grown_7 : decode cX5_grown 7 = .ok (.if_icmp .ge 117, 3) := by decide +kernel
theorem eX5_grown_10 : decode cX5_grown 10 = .ok (.iload_n 2, 1) := by decide +kernel
theorem eX5_grown_11 : decode cX5_grown 11 = .ok (.iconst 1, 1) := by decide +kernel
theorem eX5_grown_12 : decode cX5_grown 12 = .ok (.iload_n 3, 1) := by decide +kernel
theorem eX5_grown_13 : decode cX5_grown 13 = .ok (.ishl, 1) := by decide +kernel
theorem eX5_grown_14 : decode cX5_grown 14 = .ok (.ior, 1) := by decide +kernel
theorem eX5_grown_15 : decode cX5_grown 15 = .ok (.istore 4, 2) := by decide +kernel
theorem eX5_grown_17 : decode cX5_grown 17 = .ok (.iload 4, 2) := by decide +kernel
theorem eX5_grown_19 : decode cX5_grown 19 = .ok (.iload_n 2, 1) := by decide +kernel
theorem eX5_grown_20 : decode cX5_grown 20 = .ok (.if_icmp .eq 98, 3) := by decide +kernel
theorem eX5_grown_23 : decode cX5_grown 23 = .ok (.iload 4, 2) := by decide +kernel
theorem eX5_grown_25 : decode cX5_grown 25 = .ok (.aload_n 0, 1) := by decide +kernel
theorem eX5_grown_26 : decode cX5_grown 26 = .ok (.getfield 23, 3) := by decide +kernel
theorem eX5_grown_29 : decode cX5_grown 29 = .ok (.if_icmp .gt 89, 3) := by decide +kernel
theorem eX5_grown_32 : decode cX5_grown 32 = .ok (.iload 4, 2) := by decide +kernel
theorem eX5_grown_34 : decode cX5_grown 34 = .ok (.sipush 4096, 3) := by decide +kernel
theorem eX5_grown_37 : decode cX5_grown 37 = .ok (.if_icmp .lt 6, 3) := by decide +kernel
theorem eX5_grown_40 : decode cX5_grown 40 = .ok (.goto 78, 3) := by decide +kernel
theorem eX5_grown_43 : decode cX5_grown 43 = .ok (.aload_n 0, 1) := by decide +kernel
theorem eX5_grown_44 : decode cX5_grown 44 = .ok (.getfield 11, 3) := by decide +kernel
theorem eX5_grown_47 : decode cX5_grown 47 = .ok (.iload 4, 2) := by decide +kernel
theorem eX5_grown_49 : decode cX5_grown 49 = .ok (.baload, 1) := by decide +kernel
theorem eX5_grown_50 : decode cX5_grown 50 = .ok (.ifCond .eq 7, 3) := by decide +kernel
theorem eX5_grown_53 : decode cX5_grown 53 = .ok (.iconst 1, 1) := by decide +kernel
theorem eX5_grown_54 : decode cX5_grown 54 = .ok (.goto 4, 3) := by decide +kernel
theorem eX5_grown_57 : decode cX5_grown 57 = .ok (.iconst 0, 1) := by decide +kernel
theorem eX5_grown_58 : decode cX5_grown 58 = .ok (.istore 5, 2) := by decide +kernel
theorem eX5_grown_60 : decode cX5_grown 60 = .ok (.aload_n 0, 1) := by decide +kernel
theorem eX5_grown_61 : decode cX5_grown 61 = .ok (.getfield 11, 3) := by decide +kernel
theorem eX5_grown_64 : decode cX5_grown 64 = .ok (.iload 4, 2) := by decide +kernel
theorem eX5_grown_66 : decode cX5_grown 66 = .ok (.baload, 1) := by decide +kernel
theorem eX5_grown_67 : decode cX5_grown 67 = .ok (.iconst 1, 1) := by decide +kernel
theorem eX5_grown_68 : decode cX5_grown 68 = .ok (.if_icmp .eq 14, 3) := by decide +kernel
theorem eX5_grown_71 : decode cX5_grown 71 = .ok (.aload_n 0, 1) := by decide +kernel
theorem eX5_grown_72 : decode cX5_grown 72 = .ok (.getfield 11, 3) := by decide +kernel
theorem eX5_grown_75 : decode cX5_grown 75 = .ok (.iload 4, 2) := by decide +kernel
theorem eX5_grown_77 : decode cX5_grown 77 = .ok (.baload, 1) := by decide +kernel
theorem eX5_grown_78 : decode cX5_grown 78 = .ok (.iconst 4, 1) := by decide +kernel
theorem eX5_grown_79 : decode cX5_grown 79 = .ok (.if_icmp .ne 7, 3) := by decide +kernel
theorem eX5_grown_82 : decode cX5_grown 82 = .ok (.iconst 1, 1) := by decide +kernel
theorem eX5_grown_83 : decode cX5_grown 83 = .ok (.goto 4, 3) := by decide +kernel
theorem eX5_grown_86 : decode cX5_grown 86 = .ok (.iconst 0, 1) := by decide +kernel
theorem eX5_grown_87 : decode cX5_grown 87 = .ok (.istore 6, 2) := by decide +kernel
theorem eX5_grown_89 : decode cX5_grown 89 = .ok (.iload 5, 2) := by decide +kernel
theorem eX5_grown_91 : decode cX5_grown 91 = .ok (.ifCond .eq 11, 3) := by decide +kernel
theorem eX5_grown_94 : decode cX5_grown 94 = .ok (.iload 6, 2) := by decide +kernel
theorem eX5_grown_96 : decode cX5_grown 96 = .ok (.ifCond .eq 22, 3) := by decide +kernel
theorem eX5_grown_99 : decode cX5_grown 99 = .ok (.goto 16, 3) := by decide +kernel
theorem eX5_grown_102 : decode cX5_grown 102 = .ok (.aload_n 0, 1) := by decide +kernel
theorem eX5_grown_103 : decode cX5_grown 103 = .ok (.getfield 15, 3) := by decide +kernel
theorem eX5_grown_106 : decode cX5_grown 106 = .ok (.iload 4, 2) := by decide +kernel
theorem eX5_grown_108 : decode cX5_grown 108 = .ok (.i2l, 1) := by decide +kernel
theorem eX5_grown_109 : decode cX5_grown 109 = .ok (.invokevirtual 33, 3) := by decide +kernel
theorem eX5_grown_112 : decode cX5_grown 112 = .ok (.ifCond .ne 6, 3) := by decide +kernel
theorem eX5_grown_115 : decode cX5_grown 115 = .ok (.iload 4, 2) := by decide +kernel
theorem eX5_grown_117 : decode cX5_grown 117 = .ok (.istore_n 2, 1) := by decide +kernel
theorem eX5_grown_118 : decode cX5_grown 118 = .ok (.iinc 3 1, 3) := by decide +kernel
theorem eX5_grown_121 : decode cX5_grown 121 = .ok (.goto (-117), 3) := by decide +kernel
theorem eX5_grown_124 : decode cX5_grown 124 = .ok (.iload_n 2, 1) := by decide +kernel
theorem eX5_grown_125 : decode cX5_grown 125 = .ok (.ireturn, 1) := by decide +kernel
def C_X5_grown (s : ST) (p : Int) (Q : ST → Int → Prop) : Prop := bx <| RA s → R32 p → q_met mX5_grown (qs layX s) [.ref 67, .int (Int32.ofInt p)] (PI layX Q)
theorem C_X5_grown.mono {s : ST} {p : Int} {Q Q' : ST → Int → Prop} (h : C_X5_grown s p Q) (hq : ∀ s v, Q s v → Q' s v) : C_X5_grown s p Q' := ⟨fun hA hrp => q_met.mono (h.1 hA hrp) (fun _ _ => PI.mono hq), trivial⟩
def K_X5_grown_87 (s : ST) (a2 : Int) (a3 : Int) (a4 : Int) (a5 : Int) (t0 : Int) (Q : ST → Int → Prop) : Prop := bx <| RA s → R32 a2 → R32 a3 → R32 a4 → R32 a5 → R32 t0 → q_K mX5_grown (qs layX s) 0 0 87 [(0, .ref 67), (2, .int (Int32.ofInt a2)), (3, .int (Int32.ofInt a3)), (4, .int (Int32.ofInt a4)), (5, .int (Int32.ofInt a5))] [.int (Int32.ofInt t0)] (q_fin mX5_grown (PI layX Q))
def K_X5_grown_82 (s : ST) (a2 : Int) (a3 : Int) (a4 : Int) (a5 : Int) (Q : ST → Int → Prop) : Prop := bx <| RA s → R32 a2 → R32 a3 → R32 a4 → R32 a5 → q_K mX5_grown (qs layX s) 0 0 82 [(0, .ref 67), (2, .int (Int32.ofInt a2)), (3, .int (Int32.ofInt a3)), (4, .int (Int32.ofInt a4)), (5, .int (Int32.ofInt a5))] [] (q_fin mX5_grown (PI layX Q))
def K_X5_grown_58 (s : ST) (a2 : Int) (a3 : Int) (a4 : Int) (t0 : Int) (Q : ST → Int → Prop) : Prop := bx <| RA s → R32 a2 → R32 a3 → R32 a4 → R32 t0 → q_K mX5_grown (qs layX s) 0 0 58 [(0, .ref 67), (2, .int (Int32.ofInt a2)), (3, .int (Int32.ofInt a3)), (4, .int (Int32.ofInt a4))] [.int (Int32.ofInt t0)] (q_fin mX5_grown (PI layX Q))
def K_X5_grown_4 (s : ST) (a2 : Int) (a3 : Int) (Q : ST → Int → Prop) : Prop := bx <| RA s → R32 a2 → R32 a3 → q_K mX5_grown (qs layX s) 0 0 4 [(0, .ref 67), (2, .int (Int32.ofInt a2)), (3, .int (Int32.ofInt a3))] [] (q_fin mX5_grown (PI layX Q))
set_option maxRecDepth 20000 in
theorem s_X5_grown_87 {s : ST} {a2 : Int} {a3 : Int} {a4 : Int} {a5 : Int} {t0 : Int} {Q : ST → Int → Prop} (h : RA s → R32 a2 → R32 a3 → R32 a4 → R32 a5 → R32 t0 → ((a5 = 0 → (C_X0_clashOf 51 s (Int64.ofInt a4) (fun s1 v1 => (v1 = 0 ∨ v1 = 1) → ((¬ v1 = 0 → (R32 (a3 + 1) ∧ K_X5_grown_4 s1 a2 (a3 + 1) Q)) ∧ (v1 = 0 → (R32 (a3 + 1) ∧ K_X5_grown_4 s1 a4 (a3 + 1) Q)))))) ∧ (¬ a5 = 0 → ((t0 = 0 → (R32 (a3 + 1) ∧ K_X5_grown_4 s a2 (a3 + 1) Q)) ∧ (¬ t0 = 0 → (R32 (a3 + 1) ∧ K_X5_grown_4 s a4 (a3 + 1) Q)))))) : K_X5_grown_87 s a2 a3 a4 a5 t0 Q := by
  refine ⟨?_, trivial⟩
  intro hA hra2 hra3 hra4 hra5 hrt0
  have h := h hA hra2 hra3 hra4 hra5 hrt0
  refine q_istore eX5_grown_87 (Nat.le_of_ble_eq_true rfl) ?_
  refine q_iload eX5_grown_89 rfl ?_
  refine q_iz_eq (tgt := 102) (a := a5) eX5_grown_91 (by decide) (ofz hra5) (fun c91 => ?_) (fun c91 => ?_)
  · have h := h.1 c91
    refine q_aload_n eX5_grown_102 rfl ?_
    refine q_getR (c := 5) (n := 0) (k := 4) (a := 51) eX5_grown_103 rfl (by decide) (by decide) fX5_15 rfl rfl ?_
    refine q_iload eX5_grown_106 rfl ?_
    refine z_i2l eX5_grown_108 hra4 ?_
    refine q_V1 (ci := 0) (n := 0) eX5_grown_109 DX0_clashOf lX5_33 rfl (by decide) rfl rfl rfl rfl (h.1 (by decide) hA) ?_
    rintro _ _ ⟨s1, v1, rfl, hA1, b1, rfl, h⟩
    have h := h b1
    refine q_iz_ne (tgt := 118) (a := v1) eX5_grown_112 (by decide) (ofz (r01 b1)) (fun c112 => ?_) (fun c112 => ?_)
    · have h := h.1 c112
      have r2 := h.1
      have h := h.2
      refine z_inc (m := 1) eX5_grown_118 rfl (Nat.le_of_ble_eq_true rfl) rfl ?_
      refine q_goto (tgt := 4) eX5_grown_121 (by decide) ?_
      exact q_subL rfl (h.1 hA1 hra2 r2)
    · have h := h.2 c112
      refine q_iload eX5_grown_115 rfl ?_
      refine q_istore_n eX5_grown_117 (Nat.le_of_ble_eq_true rfl) ?_
      have r3 := h.1
      have h := h.2
      refine z_inc (m := 1) eX5_grown_118 rfl (Nat.le_of_ble_eq_true rfl) rfl ?_
      refine q_goto (tgt := 4) eX5_grown_121 (by decide) ?_
      exact q_subL rfl (h.1 hA1 hra4 r3)
  · have h := h.2 c91
    refine q_iload eX5_grown_94 rfl ?_
    refine q_iz_eq (tgt := 118) (a := t0) eX5_grown_96 (by decide) (ofz hrt0) (fun c96 => ?_) (fun c96 => ?_)
    · have h := h.1 c96
      have r4 := h.1
      have h := h.2
      refine z_inc (m := 1) eX5_grown_118 rfl (Nat.le_of_ble_eq_true rfl) rfl ?_
      refine q_goto (tgt := 4) eX5_grown_121 (by decide) ?_
      exact q_subL rfl (h.1 hA hra2 r4)
    · have h := h.2 c96
      refine q_goto (tgt := 115) eX5_grown_99 (by decide) ?_
      refine q_iload eX5_grown_115 rfl ?_
      refine q_istore_n eX5_grown_117 (Nat.le_of_ble_eq_true rfl) ?_
      have r5 := h.1
      have h := h.2
      refine z_inc (m := 1) eX5_grown_118 rfl (Nat.le_of_ble_eq_true rfl) rfl ?_
      refine q_goto (tgt := 4) eX5_grown_121 (by decide) ?_
      exact q_subL rfl (h.1 hA hra4 r5)
set_option maxRecDepth 20000 in
theorem s_X5_grown_82 {s : ST} {a2 : Int} {a3 : Int} {a4 : Int} {a5 : Int} {Q : ST → Int → Prop} (h : RA s → R32 a2 → R32 a3 → R32 a4 → R32 a5 → K_X5_grown_87 s a2 a3 a4 a5 1 Q) : K_X5_grown_82 s a2 a3 a4 a5 Q := by
  refine ⟨?_, trivial⟩
  intro hA hra2 hra3 hra4 hra5
  have h := h hA hra2 hra3 hra4 hra5
  refine q_ic (v := Int32.ofInt 1) eX5_grown_82 rfl ?_
  refine q_goto (tgt := 87) eX5_grown_83 (by decide) ?_
  exact q_subL rfl (h.1 hA hra2 hra3 hra4 hra5 (r32l rfl))
set_option maxRecDepth 20000 in
theorem s_X5_grown_58 {s : ST} {a2 : Int} {a3 : Int} {a4 : Int} {t0 : Int} {Q : ST → Int → Prop} (h : RA s → R32 a2 → R32 a3 → R32 a4 → R32 t0 → (((0 : Int) ≤ a4 ∧ a4 < 4096) ∧ ((s.1 68 a4 = 1 → K_X5_grown_82 s a2 a3 a4 t0 Q) ∧ (¬ s.1 68 a4 = 1 → ((¬ s.1 68 a4 = 4 → K_X5_grown_87 s a2 a3 a4 t0 0 Q) ∧ (s.1 68 a4 = 4 → K_X5_grown_82 s a2 a3 a4 t0 Q)))))) : K_X5_grown_58 s a2 a3 a4 t0 Q := by
  refine ⟨?_, trivial⟩
  intro hA hra2 hra3 hra4 hrt0
  have h := h hA hra2 hra3 hra4 hrt0
  refine q_istore eX5_grown_58 (Nat.le_of_ble_eq_true rfl) ?_
  refine q_aload_n eX5_grown_60 rfl ?_
  refine q_getR (c := 5) (n := 0) (k := 5) (a := 68) eX5_grown_61 rfl (by decide) (by decide) fX5_11 rfl rfl ?_
  refine q_iload eX5_grown_64 rfl ?_
  have f1 := h.1
  have h := h.2
  refine z_bald (n := 4096) eX5_grown_66 rfl (ofz hra4) f1 ?_
  refine q_topI (v := Int32.ofInt (s.1 68 a4)) rfl ?_
  refine q_ic (v := Int32.ofInt 1) eX5_grown_67 rfl ?_
  refine q_cz_eq (tgt := 82) (a := s.1 68 a4) (b := 1) eX5_grown_68 (by decide) (ofz (hA _ _)) (ofz (r32l rfl)) (fun c68 => ?_) (fun c68 => ?_)
  · have h := h.1 c68
    exact q_subL rfl (h.1 hA hra2 hra3 hra4 hrt0)
  · have h := h.2 c68
    refine q_aload_n eX5_grown_71 rfl ?_
    refine q_getR (c := 5) (n := 0) (k := 5) (a := 68) eX5_grown_72 rfl (by decide) (by decide) fX5_11 rfl rfl ?_
    refine q_iload eX5_grown_75 rfl ?_
    refine z_bald (n := 4096) eX5_grown_77 rfl (ofz hra4) f1 ?_
    refine q_topI (v := Int32.ofInt (s.1 68 a4)) rfl ?_
    refine q_ic (v := Int32.ofInt 4) eX5_grown_78 rfl ?_
    refine q_cz_ne (tgt := 86) (a := s.1 68 a4) (b := 4) eX5_grown_79 (by decide) (ofz (hA _ _)) (ofz (r32l rfl)) (fun c79 => ?_) (fun c79 => ?_)
    · have h := h.1 c79
      refine q_ic (v := Int32.ofInt 0) eX5_grown_86 rfl ?_
      exact q_subL rfl (h.1 hA hra2 hra3 hra4 hrt0 (r32l rfl))
    · have h := h.2 c79
      exact q_subL rfl (h.1 hA hra2 hra3 hra4 hrt0)
set_option maxRecDepth 20000 in
theorem s_X5_grown_4 {s : ST} {a2 : Int} {a3 : Int} {Q : ST → Int → Prop} (h : RA s → R32 a2 → R32 a3 → ((12 ≤ a3 → Q s a2) ∧ (¬ 12 ≤ a3 → (((ior a2 (ishl 1 a3)) = a2 → (R32 (a3 + 1) ∧ K_X5_grown_4 s a2 (a3 + 1) Q)) ∧ (¬ (ior a2 (ishl 1 a3)) = a2 → ((s.1 67 3 < (ior a2 (ishl 1 a3)) → (R32 (a3 + 1) ∧ K_X5_grown_4 s a2 (a3 + 1) Q)) ∧ (¬ s.1 67 3 < (ior a2 (ishl 1 a3)) → (((ior a2 (ishl 1 a3)) < 4096 → (((0 : Int) ≤ (ior a2 (ishl 1 a3)) ∧ (ior a2 (ishl 1 a3)) < 4096) ∧ ((s.1 68 (ior a2 (ishl 1 a3)) = 0 → K_X5_grown_58 s a2 a3 (ior a2 (ishl 1 a3)) 0 Q) ∧ (¬ s.1 68 (ior a2 (ishl 1 a3)) = 0 → K_X5_grown_58 s a2 a3 (ior a2 (ishl 1 a3)) 1 Q)))) ∧ (¬ (ior a2 (ishl 1 a3)) < 4096 → (R32 (a3 + 1) ∧ K_X5_grown_4 s a2 (a3 + 1) Q)))))))))) : K_X5_grown_4 s a2 a3 Q := by
  refine ⟨?_, trivial⟩
  intro hA hra2 hra3
  have h := h hA hra2 hra3
  refine q_iload_n eX5_grown_4 rfl ?_
  refine q_bi (v := Int32.ofInt 12) eX5_grown_5 rfl ?_
  refine q_cz_ge (tgt := 124) (a := a3) (b := 12) eX5_grown_7 (by decide) (ofz hra3) (ofz (r32l rfl)) (fun c7 => ?_) (fun c7 => ?_)
  · have h := h.1 c7
    refine q_iload_n eX5_grown_124 rfl ?_
    exact q_iret eX5_grown_125 rfl ⟨_, _, rfl, hA, hra2, rfl, h⟩
  · have h := h.2 c7
    refine q_iload_n eX5_grown_10 rfl ?_
    refine q_ic (v := Int32.ofInt 1) eX5_grown_11 rfl ?_
    refine q_iload_n eX5_grown_12 rfl ?_
    refine z_ishl eX5_grown_13 ?_
    refine z_ior eX5_grown_14 ?_
    refine q_istore eX5_grown_15 (Nat.le_of_ble_eq_true rfl) ?_
    refine q_iload eX5_grown_17 rfl ?_
    refine q_iload_n eX5_grown_19 rfl ?_
    refine q_cz_eq (tgt := 118) (a := (ior a2 (ishl 1 a3))) (b := a2) eX5_grown_20 (by decide) (ofz (ior_r _ _)) (ofz hra2) (fun c20 => ?_) (fun c20 => ?_)
    · have h := h.1 c20
      have r1 := h.1
      have h := h.2
      refine z_inc (m := 1) eX5_grown_118 rfl (Nat.le_of_ble_eq_true rfl) rfl ?_
      refine q_goto (tgt := 4) eX5_grown_121 (by decide) ?_
      exact q_subL rfl (h.1 hA hra2 r1)
    · have h := h.2 c20
      refine q_iload eX5_grown_23 rfl ?_
      refine q_aload_n eX5_grown_25 rfl ?_
      refine q_getf (c := 5) (n := 0) (k := 3) (v := .int (Int32.ofInt (s.1 67 3))) eX5_grown_26 rfl (by decide) (by decide) fX5_23 rfl ?_
      refine q_cz_gt (tgt := 118) (a := (ior a2 (ishl 1 a3))) (b := s.1 67 3) eX5_grown_29 (by decide) (ofz (ior_r _ _)) (ofz (hA _ _)) (fun c29 => ?_) (fun c29 => ?_)
      · have h := h.1 c29
        have r2 := h.1
        have h := h.2
        refine z_inc (m := 1) eX5_grown_118 rfl (Nat.le_of_ble_eq_true rfl) rfl ?_
        refine q_goto (tgt := 4) eX5_grown_121 (by decide) ?_
        exact q_subL rfl (h.1 hA hra2 r2)
      · have h := h.2 c29
        refine q_iload eX5_grown_32 rfl ?_
        refine q_si (v := Int32.ofInt 4096) eX5_grown_34 rfl ?_
        refine q_cz_lt (tgt := 43) (a := (ior a2 (ishl 1 a3))) (b := 4096) eX5_grown_37 (by decide) (ofz (ior_r _ _)) (ofz (r32l rfl)) (fun c37 => ?_) (fun c37 => ?_)
        · have h := h.1 c37
          refine q_aload_n eX5_grown_43 rfl ?_
          refine q_getR (c := 5) (n := 0) (k := 5) (a := 68) eX5_grown_44 rfl (by decide) (by decide) fX5_11 rfl rfl ?_
          refine q_iload eX5_grown_47 rfl ?_
          have f3 := h.1
          have h := h.2
          refine z_bald (n := 4096) eX5_grown_49 rfl (ofz (ior_r _ _)) f3 ?_
          refine q_topI (v := Int32.ofInt (s.1 68 (ior a2 (ishl 1 a3)))) rfl ?_
          refine q_iz_eq (tgt := 57) (a := s.1 68 (ior a2 (ishl 1 a3))) eX5_grown_50 (by decide) (ofz (hA _ _)) (fun c50 => ?_) (fun c50 => ?_)
          · have h := h.1 c50
            refine q_ic (v := Int32.ofInt 0) eX5_grown_57 rfl ?_
            exact q_subL rfl (h.1 hA hra2 hra3 (ior_r _ _) (r32l rfl))
          · have h := h.2 c50
            refine q_ic (v := Int32.ofInt 1) eX5_grown_53 rfl ?_
            refine q_goto (tgt := 58) eX5_grown_54 (by decide) ?_
            exact q_subL rfl (h.1 hA hra2 hra3 (ior_r _ _) (r32l rfl))
        · have h := h.2 c37
          refine q_goto (tgt := 118) eX5_grown_40 (by decide) ?_
          have r4 := h.1
          have h := h.2
          refine z_inc (m := 1) eX5_grown_118 rfl (Nat.le_of_ble_eq_true rfl) rfl ?_
          refine q_goto (tgt := 4) eX5_grown_121 (by decide) ?_
          exact q_subL rfl (h.1 hA hra2 r4)
set_option maxRecDepth 20000 in
theorem s_X5_grown {s : ST} {p : Int} {Q : ST → Int → Prop} (h : RA s → R32 p → K_X5_grown_4 s p 0 Q) : C_X5_grown s p Q := by
  refine ⟨?_, trivial⟩
  intro hA hrp
  have h := h hA hrp
  refine q_enter (by decide) (Nat.le_of_ble_eq_true rfl) ?_
  refine q_iload_n eX5_grown_0 rfl ?_
  refine q_istore_n eX5_grown_1 (Nat.le_of_ble_eq_true rfl) ?_
  refine q_ic (v := Int32.ofInt 0) eX5_grown_2 rfl ?_
  refine q_istore_n eX5_grown_3 (Nat.le_of_ble_eq_true rfl) ?_
  exact q_subL rfl (h.1 hA hrp (r32l rfl))
theorem eX5_markBelow_0 : decode cX5_markBelow 0 = .ok (.aload_n 0, 1) := by decide +kernel
theorem eX5_markBelow_1 : decode cX5_markBelow 1 = .ok (.dup, 1) := by decide +kernel
theorem eX5_markBelow_2 : decode cX5_markBelow 2 = .ok (.getfield 30, 3) := by decide +kernel
theorem eX5_markBelow_5 : decode cX5_markBelow 5 = .ok (.iconst 1, 1) := by decide +kernel
theorem eX5_markBelow_6 : decode cX5_markBelow 6 = .ok (.iadd, 1) := by decide +kernel
theorem eX5_markBelow_7 : decode cX5_markBelow 7 = .ok (.putfield 30, 3) := by decide +kernel
theorem eX5_markBelow_10 : decode cX5_markBelow 10 = .ok (.iload_n 1, 1) := by decide +kernel
theorem eX5_markBelow_11 : decode cX5_markBelow 11 = .ok (.istore_n 2, 1) := by decide +kernel
theorem eX5_markBelow_12 : decode cX5_markBelow 12 = .ok (.iconst 0, 1) := by decide +kernel
theorem eX5_markBelow_13 : decode cX5_markBelow 13 = .ok (.istore_n 3, 1) := by decide +kernel
theorem eX5_markBelow_14 : decode cX5_markBelow 14 = .ok (.iload_n 3, 1) := by decide +kernel
theorem eX5_markBelow_15 : decode cX5_markBelow 15 = .ok (.sipush 4096, 3) := by decide +kernel
theorem eX5_markBelow_18 : decode cX5_markBelow 18 = .ok (.if_icmp .ge 25, 3) := by decide +kernel
theorem eX5_markBelow_21 : decode cX5_markBelow 21 = .ok (.iload_n 2, 1) := by decide +kernel
theorem eX5_markBelow_22 : decode cX5_markBelow 22 = .ok (.ifCond .le 21, 3) := by decide +kernel
theorem eX5_markBelow_25 : decode cX5_markBelow 25 = .ok (.aload_n 0, 1) := by decide +kernel
theorem eX5_markBelow_26 : decode cX5_markBelow 26 = .ok (.iload_n 2, 1) := by decide +kernel
theorem eX5_markBelow_27 : decode cX5_markBelow 27 = .ok (.iconst 1, 1) := by decide +kernel
theorem eX5_markBelow_28 : decode cX5_markBelow 28 = .ok (.invokevirtual 50, 3) := by decide +kernel
theorem eX5_markBelow_31 : decode cX5_markBelow 31 = .ok (.iload_n 2, 1) := by decide +kernel
theorem eX5_markBelow_32 : decode cX5_markBelow 32 = .ok (.iconst 1, 1) := by decide +kernel
theorem eX5_markBelow_33 : decode cX5_markBelow 33 = .ok (.isub, 1) := by decide +kernel
theorem eX5_markBelow_34 : decode cX5_markBelow 34 = .ok (.iload_n 1, 1) := by decide +kernel
theorem eX5_markBelow_35 : decode cX5_markBelow 35 = .ok (.iand, 1) := by decide +kernel
theorem eX5_markBelow_36 : decode cX5_markBelow 36 = .ok (.istore_n 2, 1) := by decide +kernel
theorem eX5_markBelow_37 : decode cX5_markBelow 37 = .ok (.iinc 3 1, 3) := by decide +kernel
theorem eX5_markBelow_40 : decode cX5_markBelow 40 = .ok (.goto (-26), 3) := by decide +kernel
theorem eX5_markBelow_43 : decode cX5_markBelow 43 = .ok (.aload_n 0, 1) := by decide +kernel
theorem eX5_markBelow_44 : decode cX5_markBelow 44 = .ok (.iconst 0, 1) := by decide +kernel
theorem eX5_markBelow_45 : decode cX5_markBelow 45 = .ok (.iconst 1, 1) := by decide +kernel
theorem eX5_markBelow_46 : decode cX5_markBelow 46 = .ok (.invokevirtual 50, 3) := by decide +kernel
theorem eX5_markBelow_49 : decode cX5_markBelow 49 = .ok (.aload_n 0, 1) := by decide +kernel
theorem eX5_markBelow_50 : decode cX5_markBelow 50 = .ok (.iload_n 1, 1) := by decide +kernel
theorem eX5_markBelow_51 : decode cX5_markBelow 51 = .ok (.iconst 4, 1) := by decide +kernel
theorem eX5_markBelow_52 : decode cX5_markBelow 52 = .ok (.invokevirtual 50, 3) := by decide +kernel
theorem eX5_markBelow_55 : decode cX5_markBelow 55 = .ok (.return_, 1) := by decide +kernel
def C_X5_markBelow (s : ST) (p : Int) (Q : ST → Prop) : Prop := bx <| RA s → R32 p → q_met mX5_markBelow (qs layX s) [.ref 67, .int (Int32.ofInt p)] (PV layX Q)
theorem C_X5_markBelow.mono {s : ST} {p : Int} {Q Q' : ST → Prop} (h : C_X5_markBelow s p Q) (hq : ∀ s, Q s → Q' s) : C_X5_markBelow s p Q' := ⟨fun hA hrp => q_met.mono (h.1 hA hrp) (fun _ _ => PV.mono hq), trivial⟩
def K_X5_markBelow_43 (s : ST) (a1 : Int) (Q : ST → Prop) : Prop := bx <| RA s → R32 a1 → q_K mX5_markBelow (qs layX s) 0 0 43 [(0, .ref 67), (1, .int (Int32.ofInt a1))] [] (q_fin mX5_markBelow (PV layX Q))
def K_X5_markBelow_14 (s : ST) (a1 : Int) (a2 : Int) (a3 : Int) (Q : ST → Prop) : Prop := bx <| RA s → R32 a1 → R32 a2 → R32 a3 → q_K mX5_markBelow (qs layX s) 0 0 14 [(0, .ref 67), (1, .int (Int32.ofInt a1)), (2, .int (Int32.ofInt a2)), (3, .int (Int32.ofInt a3))] [] (q_fin mX5_markBelow (PV layX Q))
set_option maxRecDepth 20000 in
theorem s_X5_markBelow_43 {s : ST} {a1 : Int} {Q : ST → Prop} (h : RA s → R32 a1 → (C_X5_mark s 0 1 (fun s1 => (C_X5_mark s1 a1 4 (fun s2 => Q s2))))) : K_X5_markBelow_43 s a1 Q := by
  refine ⟨?_, trivial⟩
  intro hA hra1
  have h := h hA hra1
  refine q_aload_n eX5_markBelow_43 rfl ?_
  refine q_ic (v := Int32.ofInt 0) eX5_markBelow_44 rfl ?_
  refine q_ic (v := Int32.ofInt 1) eX5_markBelow_45 rfl ?_
  refine q_V2 (ci := 5) (n := 0) eX5_markBelow_46 DX5_mark lX5_50 rfl (by decide) rfl rfl rfl rfl (h.1 hA (r32l rfl) (r32l rfl)) ?_
  rintro _ _ ⟨s1, rfl, hA1, rfl, h⟩
  refine q_aload_n eX5_markBelow_49 rfl ?_
  refine q_iload_n eX5_markBelow_50 rfl ?_
  refine q_ic (v := Int32.ofInt 4) eX5_markBelow_51 rfl ?_
  refine q_V2 (ci := 5) (n := 0) eX5_markBelow_52 DX5_mark lX5_50 rfl (by decide) rfl rfl rfl rfl (h.1 hA1 hra1 (r32l rfl)) ?_
  rintro _ _ ⟨s2, rfl, hA2, rfl, h⟩
  exact q_ret eX5_markBelow_55 rfl ⟨_, rfl, hA2, rfl, h⟩
set_option maxRecDepth 20000 in
theorem s_X5_markBelow_14 {s : ST} {a1 : Int} {a2 : Int} {a3 : Int} {Q : ST → Prop} (h : RA s → R32 a1 → R32 a2 → R32 a3 → ((4096 ≤ a3 → K_X5_markBelow_43 s a1 Q) ∧ (¬ 4096 ≤ a3 → ((a2 ≤ 0 → K_X5_markBelow_43 s a1 Q) ∧ (¬ a2 ≤ 0 → (C_X5_mark s a2 1 (fun s1 => (R32 (a2 - 1) ∧ (R32 (a3 + 1) ∧ K_X5_markBelow_14 s1 a1 (iand (a2 - 1) a1) (a3 + 1) Q))))))))) : K_X5_markBelow_14 s a1 a2 a3 Q := by
  refine ⟨?_, trivial⟩
  intro hA hra1 hra2 hra3
  have h := h hA hra1 hra2 hra3
  refine q_iload_n eX5_markBelow_14 rfl ?_
  refine q_si (v := Int32.ofInt 4096) eX5_markBelow_15 rfl ?_
  refine q_cz_ge (tgt := 43) (a := a3) (b := 4096) eX5_markBelow_18 (by decide) (ofz hra3) (ofz (r32l rfl)) (fun c18 => ?_) (fun c18 => ?_)
  · have h := h.1 c18
    exact q_subL rfl (h.1 hA hra1)
  · have h := h.2 c18
    refine q_iload_n eX5_markBelow_21 rfl ?_
    refine q_iz_le (tgt := 43) (a := a2) eX5_markBelow_22 (by decide) (ofz hra2) (fun c22 => ?_) (fun c22 => ?_)
    · have h := h.1 c22
      exact q_subL rfl (h.1 hA hra1)
    · have h := h.2 c22
      refine q_aload_n eX5_markBelow_25 rfl ?_
      refine q_iload_n eX5_markBelow_26 rfl ?_
      refine q_ic (v := Int32.ofInt 1) eX5_markBelow_27 rfl ?_
      refine q_V2 (ci := 5) (n := 0) eX5_markBelow_28 DX5_mark lX5_50 rfl (by decide) rfl rfl rfl rfl (h.1 hA hra2 (r32l rfl)) ?_
      rintro _ _ ⟨s1, rfl, hA1, rfl, h⟩
      refine q_iload_n eX5_markBelow_31 rfl ?_
      refine q_ic (v := Int32.ofInt 1) eX5_markBelow_32 rfl ?_
      refine z_isub eX5_markBelow_33 ?_
      have r2 := h.1
      have h := h.2
      refine q_iload_n eX5_markBelow_34 rfl ?_
      refine z_iand eX5_markBelow_35 ?_
      refine q_istore_n eX5_markBelow_36 (Nat.le_of_ble_eq_true rfl) ?_
      have r3 := h.1
      have h := h.2
      refine z_inc (m := 1) eX5_markBelow_37 rfl (Nat.le_of_ble_eq_true rfl) rfl ?_
      refine q_goto (tgt := 14) eX5_markBelow_40 (by decide) ?_
      exact q_subL rfl (h.1 hA1 hra1 (iand_r _ _) r3)
set_option maxRecDepth 20000 in
theorem s_X5_markBelow {s : ST} {p : Int} {Q : ST → Prop} (h : RA s → R32 p → K_X5_markBelow_14 (ui s 67 2 (w32 (s.1 67 2 + 1))) p p 0 Q) : C_X5_markBelow s p Q := by
  refine ⟨?_, trivial⟩
  intro hA hrp
  have h := h hA hrp
  refine q_enter (by decide) (Nat.le_of_ble_eq_true rfl) ?_
  refine q_aload_n eX5_markBelow_0 rfl ?_
  refine q_dup eX5_markBelow_1 rfl ?_
  refine q_getf (c := 5) (n := 0) (k := 2) (v := .int (Int32.ofInt (s.1 67 2))) eX5_markBelow_2 rfl (by decide) (by decide) fX5_30 rfl ?_
  refine q_ic (v := Int32.ofInt 1) eX5_markBelow_5 rfl ?_
  refine z_iadd eX5_markBelow_6 ?_
  refine q_topI (v := Int32.ofInt (w32 (s.1 67 2 + 1))) (w32_of _).symm ?_
  refine z_putI (c := 5) (n := 0) (k := 2) (kz := 2) eX5_markBelow_7 rfl (by decide) (by decide) fX5_30 rfl rfl rfl ?_
  refine q_iload_n eX5_markBelow_10 rfl ?_
  refine q_istore_n eX5_markBelow_11 (Nat.le_of_ble_eq_true rfl) ?_
  refine q_ic (v := Int32.ofInt 0) eX5_markBelow_12 rfl ?_
  refine q_istore_n eX5_markBelow_13 (Nat.le_of_ble_eq_true rfl) ?_
  exact q_subL rfl (h.1 (ra_ui hA (w32_r _)) hrp hrp (r32l rfl))
theorem eX5_find_0 : decode cX5_find 0 = .ok (.aload_n 0, 1) := by decide +kernel
theorem eX5_find_1 : decode cX5_find 1 = .ok (.getfield 19, 3) := by decide +kernel
theorem eX5_find_4 : decode cX5_find 4 = .ok (.ifCond .ne 13, 3) := by decide +kernel
theorem eX5_find_7 : decode cX5_find 7 = .ok (.iload_n 1, 1) := by decide +kernel
theorem eX5_find_8 : decode cX5_find 8 = .ok (.ifCond .lt 9, 3) := by decide +kernel
theorem eX5_find_11 : decode cX5_find 11 = .ok (.iload_n 1, 1) := by decide +kernel
theorem eX5_find_12 : decode cX5_find 12 = .ok (.bipush 12, 2) := by decide +kernel
theorem eX5_find_14 : decode cX5_find 14 = .ok (.if_icmp .le 4, 3) := by decide +kernel
theorem eX5_find_17 : decode cX5_find 17 = .ok (.return_, 1) := by decide +kernel
theorem eX5_find_18 : decode cX5_find 18 = .ok (.aload_n 0, 1) := by decide +kernel
theorem eX5_find_19 : decode cX5_find 19 = .ok (.iconst 1, 1) := by decide +kernel
theorem eX5_find_20 : decode cX5_find 20 = .ok (.putfield 19, 3) := by decide +kernel
theorem eX5_find_23 : decode cX5_find 23 = .ok (.aload_n 0, 1) := by decide +kernel
theorem eX5_find_24 : decode cX5_find 24 = .ok (.iconst 1, 1) := by decide +kernel
theorem eX5_find_25 : decode cX5_find 25 = .ok (.iload_n 1, 1) := by decide +kernel
theorem eX5_find_26 : decode cX5_find 26 = .ok (.ishl, 1) := by decide +kernel
theorem eX5_find_27 : decode cX5_find 27 = .ok (.iconst 1, 1) := by decide +kernel
theorem eX5_find_28 : decode cX5_find 28 = .ok (.isub, 1) := by decide +kernel
theorem eX5_find_29 : decode cX5_find 29 = .ok (.putfield 23, 3) := by decide +kernel
theorem eX5_find_32 : decode cX5_find 32 = .ok (.aload_n 0, 1) := by decide +kernel
theorem eX5_find_33 : decode cX5_find 33 = .ok (.iconst 0, 1) := by decide +kernel
theorem eX5_find_34 : decode cX5_find 34 = .ok (.putfield 27, 3) := by decide +kernel
theorem eX5_find_37 : decode cX5_find 37 = .ok (.aload_n 0, 1) := by decide +kernel
theorem eX5_find_38 : decode cX5_find 38 = .ok (.iconst 0, 1) := by decide +kernel
theorem eX5_find_39 : decode cX5_find 39 = .ok (.putfield 30, 3) := by decide +kernel
theorem eX5_find_42 : decode cX5_find 42 = .ok (.iconst 0, 1) := by decide +kernel
theorem eX5_find_43 : decode cX5_find 43 = .ok (.istore_n 2, 1) := by decide +kernel
theorem eX5_find_44 : decode cX5_find 44 = .ok (.iload_n 2, 1) := by decide +kernel
theorem eX5_find_45 : decode cX5_find 45 = .ok (.aload_n 0, 1) := by decide +kernel
theorem eX5_find_46 : decode cX5_find 46 = .ok (.getfield 23, 3) := by decide +kernel
theorem eX5_find_49 : decode cX5_find 49 = .ok (.if_icmp .gt 23, 3) := by decide +kernel
theorem eX5_find_52 : decode cX5_find 52 = .ok (.iload_n 2, 1) := by decide +kernel
theorem eX5_find_53 : decode cX5_find 53 = .ok (.sipush 4096, 3) := by decide +kernel
theorem eX5_find_56 : decode cX5_find 56 = .ok (.if_icmp .ge 16, 3) := by decide +kernel
theorem eX5_find_59 : decode cX5_find 59 = .ok (.aload_n 0, 1) := by decide +kernel
theorem eX5_find_60 : decode cX5_find 60 = .ok (.getfield 11, 3) := by decide +kernel
theorem eX5_find_63 : decode cX5_find 63 = .ok (.iload_n 2, 1) := by decide +kernel
theorem eX5_find_64 : decode cX5_find 64 = .ok (.iconst 0, 1) := by decide +kernel
theorem eX5_find_65 : decode cX5_find 65 = .ok (.bastore, 1) := by decide +kernel
theorem eX5_find_66 : decode cX5_find 66 = .ok (.iinc 2 1, 3) := by decide +kernel
theorem eX5_find_69 : decode cX5_find 69 = .ok (.goto (-25), 3) := by decide +kernel
theorem eX5_find_72 : decode cX5_find 72 = .ok (.iconst 0, 1) := by decide +kernel
theorem eX5_find_73 : decode cX5_find 73 = .ok (.istore_n 2, 1) := by decide +kernel
theorem eX5_find_74 : decode cX5_find 74 = .ok (.iload_n 2, 1) := by decide +kernel
theorem eX5_find_75 : decode cX5_find 75 = .ok (.aload_n 0, 1) := by decide +kernel
theorem eX5_find_76 : decode cX5_find 76 = .ok (.getfield 23, 3) := by decide +kernel
theorem eX5_find_79 : decode cX5_find 79 = .ok (.if_icmp .gt 57, 3) := by decide +kernel
theorem eX5_find_82 : decode cX5_find 82 = .ok (.iload_n 2, 1) := by decide +kernel
theorem eX5_find_83 : decode cX5_find 83 = .ok (.sipush 4096, 3) := by decide +kernel
theorem eX5_find_86 : decode cX5_find 86 = .ok (.if_icmp .ge 50, 3) := by decide +kernel
theorem eX5_find_89 : decode cX5_find 89 = .ok (.aload_n 0, 1) := by decide +kernel
theorem eX5_find_90 : decode cX5_find 90 = .ok (.getfield 11, 3) := by decide +kernel
theorem eX5_find_93 : decode cX5_find 93 = .ok (.iload_n 2, 1) := by decide +kernel
theorem eX5_find_94 : decode cX5_find 94 = .ok (.baload, 1) := by decide +kernel
theorem eX5_find_95 : decode cX5_find 95 = .ok (.ifCond .eq 6, 3) := by decide +kernel
theorem eX5_find_98 : decode cX5_find 98 = .ok (.goto 32, 3) := by decide +kernel
theorem eX5_find_101 : decode cX5_find 101 = .ok (.aload_n 0, 1) := by decide +kernel
theorem eX5_find_102 : decode cX5_find 102 = .ok (.getfield 15, 3) := by decide +kernel
theorem eX5_find_105 : decode cX5_find 105 = .ok (.iload_n 2, 1) := by decide +kernel
theorem eX5_find_106 : decode cX5_find 106 = .ok (.i2l, 1) := by decide +kernel
theorem eX5_find_107 : decode cX5_find 107 = .ok (.invokevirtual 33, 3) := by decide +kernel
theorem eX5_find_110 : decode cX5_find 110 = .ok (.ifCond .eq 11, 3) := by decide +kernel
theorem eX5_find_113 : decode cX5_find 113 = .ok (.aload_n 0, 1) := by decide +kernel
theorem eX5_find_114 : decode cX5_find 114 = .ok (.iload_n 2, 1) := by decide +kernel
theorem eX5_find_115 : decode cX5_find 115 = .ok (.invokevirtual 39, 3) := by decide +kernel
theorem eX5_find_118 : decode cX5_find 118 = .ok (.goto 12, 3) := by decide +kernel
theorem eX5_find_121 : decode cX5_find 121 = .ok (.aload_n 0, 1) := by decide +kernel
theorem eX5_find_122 : decode cX5_find 122 = .ok (.aload_n 0, 1) := by decide +kernel
theorem eX5_find_123 : decode cX5_find 123 = .ok (.iload_n 2, 1) := by decide +kernel
theorem eX5_find_124 : decode cX5_find 124 = .ok (.invokevirtual 43, 3) := by decide +kernel
theorem eX5_find_127 : decode cX5_find 127 = .ok (.invokevirtual 47, 3) := by decide +kernel
theorem eX5_find_130 : decode cX5_find 130 = .ok (.iinc 2 1, 3) := by decide +kernel
theorem eX5_find_133 : decode cX5_find 133 = .ok (.goto (-59), 3) := by decide +kernel
theorem eX5_find_136 : decode cX5_find 136 = .ok (.return_, 1) := by decide +kernel
def C_X5_find (s : ST) (p : Int) (Q : ST → Prop) : Prop := bx <| RA s → R32 p → q_met mX5_find (qs layX s) [.ref 67, .int (Int32.ofInt p)] (PV layX Q)
theorem C_X5_find.mono {s : ST} {p : Int} {Q Q' : ST → Prop} (h : C_X5_find s p Q) (hq : ∀ s, Q s → Q' s) : C_X5_find s p Q' := ⟨fun hA hrp => q_met.mono (h.1 hA hrp) (fun _ _ => PV.mono hq), trivial⟩
def K_X5_find_74 (s : ST) (a2 : Int) (Q : ST → Prop) : Prop := bx <| RA s → R32 a2 → q_K mX5_find (qs layX s) 0 0 74 [(0, .ref 67), (2, .int (Int32.ofInt a2))] [] (q_fin mX5_find (PV layX Q))
def K_X5_find_44 (s : ST) (a2 : Int) (Q : ST → Prop) : Prop := bx <| RA s → R32 a2 → q_K mX5_find (qs layX s) 0 0 44 [(0, .ref 67), (2, .int (Int32.ofInt a2))] [] (q_fin mX5_find (PV layX Q))
set_option maxRecDepth 20000 in
theorem s_X5_find_74 {s : ST} {a2 : Int} {Q : ST → Prop} (h : RA s → R32 a2 → ((s.1 67 3 < a2 → Q s) ∧ (¬ s.1 67 3 < a2 → ((4096 ≤ a2 → Q s) ∧ (¬ 4096 ≤ a2 → (((0 : Int) ≤ a2 ∧ a2 < 4096) ∧ ((s.1 68 a2 = 0 → (C_X0_clashOf 51 s (Int64.ofInt a2) (fun s2 v2 => (v2 = 0 ∨ v2 = 1) → ((v2 = 0 → (C_X5_grown s2 a2 (fun s3 v3 => (C_X5_markBelow s3 v3 (fun s4 => (R32 (a2 + 1) ∧ K_X5_find_74 s4 (a2 + 1) Q)))))) ∧ (¬ v2 = 0 → (C_X5_markAbove s2 a2 (fun s6 => (R32 (a2 + 1) ∧ K_X5_find_74 s6 (a2 + 1) Q)))))))) ∧ (¬ s.1 68 a2 = 0 → (R32 (a2 + 1) ∧ K_X5_find_74 s (a2 + 1) Q))))))))) : K_X5_find_74 s a2 Q := by
  refine ⟨?_, trivial⟩
  intro hA hra2
  have h := h hA hra2
  refine q_iload_n eX5_find_74 rfl ?_
  refine q_aload_n eX5_find_75 rfl ?_
  refine q_getf (c := 5) (n := 0) (k := 3) (v := .int (Int32.ofInt (s.1 67 3))) eX5_find_76 rfl (by decide) (by decide) fX5_23 rfl ?_
  refine q_cz_gt (tgt := 136) (a := a2) (b := s.1 67 3) eX5_find_79 (by decide) (ofz hra2) (ofz (hA _ _)) (fun c79 => ?_) (fun c79 => ?_)
  · have h := h.1 c79
    exact q_ret eX5_find_136 rfl ⟨_, rfl, hA, rfl, h⟩
  · have h := h.2 c79
    refine q_iload_n eX5_find_82 rfl ?_
    refine q_si (v := Int32.ofInt 4096) eX5_find_83 rfl ?_
    refine q_cz_ge (tgt := 136) (a := a2) (b := 4096) eX5_find_86 (by decide) (ofz hra2) (ofz (r32l rfl)) (fun c86 => ?_) (fun c86 => ?_)
    · have h := h.1 c86
      exact q_ret eX5_find_136 rfl ⟨_, rfl, hA, rfl, h⟩
    · have h := h.2 c86
      refine q_aload_n eX5_find_89 rfl ?_
      refine q_getR (c := 5) (n := 0) (k := 5) (a := 68) eX5_find_90 rfl (by decide) (by decide) fX5_11 rfl rfl ?_
      refine q_iload_n eX5_find_93 rfl ?_
      have f1 := h.1
      have h := h.2
      refine z_bald (n := 4096) eX5_find_94 rfl (ofz hra2) f1 ?_
      refine q_topI (v := Int32.ofInt (s.1 68 a2)) rfl ?_
      refine q_iz_eq (tgt := 101) (a := s.1 68 a2) eX5_find_95 (by decide) (ofz (hA _ _)) (fun c95 => ?_) (fun c95 => ?_)
      · have h := h.1 c95
        refine q_aload_n eX5_find_101 rfl ?_
        refine q_getR (c := 5) (n := 0) (k := 4) (a := 51) eX5_find_102 rfl (by decide) (by decide) fX5_15 rfl rfl ?_
        refine q_iload_n eX5_find_105 rfl ?_
        refine z_i2l eX5_find_106 hra2 ?_
        refine q_V1 (ci := 0) (n := 0) eX5_find_107 DX0_clashOf lX5_33 rfl (by decide) rfl rfl rfl rfl (h.1 (by decide) hA) ?_
        rintro _ _ ⟨s2, v2, rfl, hA2, b2, rfl, h⟩
        have h := h b2
        refine q_iz_eq (tgt := 121) (a := v2) eX5_find_110 (by decide) (ofz (r01 b2)) (fun c110 => ?_) (fun c110 => ?_)
        · have h := h.1 c110
          refine q_aload_n eX5_find_121 rfl ?_
          refine q_aload_n eX5_find_122 rfl ?_
          refine q_iload_n eX5_find_123 rfl ?_
          refine q_V1 (ci := 5) (n := 0) eX5_find_124 DX5_grown lX5_43 rfl (by decide) rfl rfl rfl rfl (h.1 hA2 hra2) ?_
          rintro _ _ ⟨s3, v3, rfl, hA3, r3, rfl, h⟩
          refine q_V1 (ci := 5) (n := 0) eX5_find_127 DX5_markBelow lX5_47 rfl (by decide) rfl rfl rfl rfl (h.1 hA3 r3) ?_
          rintro _ _ ⟨s4, rfl, hA4, rfl, h⟩
          have r5 := h.1
          have h := h.2
          refine z_inc (m := 1) eX5_find_130 rfl (Nat.le_of_ble_eq_true rfl) rfl ?_
          refine q_goto (tgt := 74) eX5_find_133 (by decide) ?_
          exact q_subL rfl (h.1 hA4 r5)
        · have h := h.2 c110
          refine q_aload_n eX5_find_113 rfl ?_
          refine q_iload_n eX5_find_114 rfl ?_
          refine q_V1 (ci := 5) (n := 0) eX5_find_115 DX5_markAbove lX5_39 rfl (by decide) rfl rfl rfl rfl (h.1 hA2 hra2) ?_
          rintro _ _ ⟨s6, rfl, hA6, rfl, h⟩
          refine q_goto (tgt := 130) eX5_find_118 (by decide) ?_
          have r7 := h.1
          have h := h.2
          refine z_inc (m := 1) eX5_find_130 rfl (Nat.le_of_ble_eq_true rfl) rfl ?_
          refine q_goto (tgt := 74) eX5_find_133 (by decide) ?_
          exact q_subL rfl (h.1 hA6 r7)
      · have h := h.2 c95
        refine q_goto (tgt := 130) eX5_find_98 (by decide) ?_
        have r8 := h.1
        have h := h.2
        refine z_inc (m := 1) eX5_find_130 rfl (Nat.le_of_ble_eq_true rfl) rfl ?_
        refine q_goto (tgt := 74) eX5_find_133 (by decide) ?_
        exact q_subL rfl (h.1 hA r8)
set_option maxRecDepth 20000 in
theorem s_X5_find_44 {s : ST} {a2 : Int} {Q : ST → Prop} (h : RA s → R32 a2 → ((s.1 67 3 < a2 → K_X5_find_74 s 0 Q) ∧ (¬ s.1 67 3 < a2 → ((4096 ≤ a2 → K_X5_find_74 s 0 Q) ∧ (¬ 4096 ≤ a2 → (((0 : Int) ≤ a2 ∧ a2 < 4096) ∧ (R32 (a2 + 1) ∧ K_X5_find_44 (ui s 68 a2 (i8 0)) (a2 + 1) Q))))))) : K_X5_find_44 s a2 Q := by
  refine ⟨?_, trivial⟩
  intro hA hra2
  have h := h hA hra2
  refine q_iload_n eX5_find_44 rfl ?_
  refine q_aload_n eX5_find_45 rfl ?_
  refine q_getf (c := 5) (n := 0) (k := 3) (v := .int (Int32.ofInt (s.1 67 3))) eX5_find_46 rfl (by decide) (by decide) fX5_23 rfl ?_
  refine q_cz_gt (tgt := 72) (a := a2) (b := s.1 67 3) eX5_find_49 (by decide) (ofz hra2) (ofz (hA _ _)) (fun c49 => ?_) (fun c49 => ?_)
  · have h := h.1 c49
    refine q_ic (v := Int32.ofInt 0) eX5_find_72 rfl ?_
    refine q_istore_n eX5_find_73 (Nat.le_of_ble_eq_true rfl) ?_
    exact q_subL rfl (h.1 hA (r32l rfl))
  · have h := h.2 c49
    refine q_iload_n eX5_find_52 rfl ?_
    refine q_si (v := Int32.ofInt 4096) eX5_find_53 rfl ?_
    refine q_cz_ge (tgt := 72) (a := a2) (b := 4096) eX5_find_56 (by decide) (ofz hra2) (ofz (r32l rfl)) (fun c56 => ?_) (fun c56 => ?_)
    · have h := h.1 c56
      refine q_ic (v := Int32.ofInt 0) eX5_find_72 rfl ?_
      refine q_istore_n eX5_find_73 (Nat.le_of_ble_eq_true rfl) ?_
      exact q_subL rfl (h.1 hA (r32l rfl))
    · have h := h.2 c56
      refine q_aload_n eX5_find_59 rfl ?_
      refine q_getR (c := 5) (n := 0) (k := 5) (a := 68) eX5_find_60 rfl (by decide) (by decide) fX5_11 rfl rfl ?_
      refine q_iload_n eX5_find_63 rfl ?_
      refine q_ic (v := Int32.ofInt 0) eX5_find_64 rfl ?_
      have f1 := h.1
      have h := h.2
      refine z_bast (n := 4096) eX5_find_65 rfl (ofz hra2) f1  ?_
      have r2 := h.1
      have h := h.2
      refine z_inc (m := 1) eX5_find_66 rfl (Nat.le_of_ble_eq_true rfl) rfl ?_
      refine q_goto (tgt := 44) eX5_find_69 (by decide) ?_
      exact q_subL rfl (h.1 (ra_ui hA (i8_r _)) r2)
set_option maxRecDepth 20000 in
theorem s_X5_find {s : ST} {p : Int} {Q : ST → Prop} (h : RA s → R32 p → ((¬ s.1 67 0 = 0 → Q s) ∧ (s.1 67 0 = 0 → ((p < 0 → Q s) ∧ (¬ p < 0 → ((p ≤ 12 → (R32 ((ishl 1 p) - 1) ∧ K_X5_find_44 (ui (ui (ui (ui s 67 0 1) 67 3 ((ishl 1 p) - 1)) 67 1 0) 67 2 0) 0 Q)) ∧ (¬ p ≤ 12 → Q s))))))) : C_X5_find s p Q := by
  refine ⟨?_, trivial⟩
  intro hA hrp
  have h := h hA hrp
  refine q_enter (by decide) (Nat.le_of_ble_eq_true rfl) ?_
  refine q_aload_n eX5_find_0 rfl ?_
  refine q_getf (c := 5) (n := 0) (k := 0) (v := .int (Int32.ofInt (s.1 67 0))) eX5_find_1 rfl (by decide) (by decide) fX5_19 rfl ?_
  refine q_iz_ne (tgt := 17) (a := s.1 67 0) eX5_find_4 (by decide) (ofz (hA _ _)) (fun c4 => ?_) (fun c4 => ?_)
  · have h := h.1 c4
    exact q_ret eX5_find_17 rfl ⟨_, rfl, hA, rfl, h⟩
  · have h := h.2 c4
    refine q_iload_n eX5_find_7 rfl ?_
    refine q_iz_lt (tgt := 17) (a := p) eX5_find_8 (by decide) (ofz hrp) (fun c8 => ?_) (fun c8 => ?_)
    · have h := h.1 c8
      exact q_ret eX5_find_17 rfl ⟨_, rfl, hA, rfl, h⟩
    · have h := h.2 c8
      refine q_iload_n eX5_find_11 rfl ?_
      refine q_bi (v := Int32.ofInt 12) eX5_find_12 rfl ?_
      refine q_cz_le (tgt := 18) (a := p) (b := 12) eX5_find_14 (by decide) (ofz hrp) (ofz (r32l rfl)) (fun c14 => ?_) (fun c14 => ?_)
      · have h := h.1 c14
        refine q_aload_n eX5_find_18 rfl ?_
        refine q_ic (v := Int32.ofInt 1) eX5_find_19 rfl ?_
        refine z_putZ (c := 5) (n := 0) (k := 0) (kz := 0) eX5_find_20 rfl (by decide) (by decide) fX5_19 rfl rfl rfl (z01 (Or.inr rfl)) ?_
        refine q_aload_n eX5_find_23 rfl ?_
        refine q_ic (v := Int32.ofInt 1) eX5_find_24 rfl ?_
        refine q_iload_n eX5_find_25 rfl ?_
        refine z_ishl eX5_find_26 ?_
        refine q_ic (v := Int32.ofInt 1) eX5_find_27 rfl ?_
        refine z_isub eX5_find_28 ?_
        have r1 := h.1
        have h := h.2
        refine z_putI (c := 5) (n := 0) (k := 3) (kz := 3) eX5_find_29 rfl (by decide) (by decide) fX5_23 rfl rfl rfl ?_
        refine q_aload_n eX5_find_32 rfl ?_
        refine q_ic (v := Int32.ofInt 0) eX5_find_33 rfl ?_
        refine z_putI (c := 5) (n := 0) (k := 1) (kz := 1) eX5_find_34 rfl (by decide) (by decide) fX5_27 rfl rfl rfl ?_
        refine q_aload_n eX5_find_37 rfl ?_
        refine q_ic (v := Int32.ofInt 0) eX5_find_38 rfl ?_
        refine z_putI (c := 5) (n := 0) (k := 2) (kz := 2) eX5_find_39 rfl (by decide) (by decide) fX5_30 rfl rfl rfl ?_
        refine q_ic (v := Int32.ofInt 0) eX5_find_42 rfl ?_
        refine q_istore_n eX5_find_43 (Nat.le_of_ble_eq_true rfl) ?_
        exact q_subL rfl (h.1 (ra_ui (ra_ui (ra_ui (ra_ui hA (r32l rfl)) r1) (r32l rfl)) (r32l rfl)) (r32l rfl))
      · have h := h.2 c14
        exact q_ret eX5_find_17 rfl ⟨_, rfl, hA, rfl, h⟩
theorem eX5_clashAt_0 : decode cX5_clashAt 0 = .ok (.iconst 0, 1) := by decide +kernel
theorem eX5_clashAt_1 : decode cX5_clashAt 1 = .ok (.istore_n 2, 1) := by decide +kernel
theorem eX5_clashAt_2 : decode cX5_clashAt 2 = .ok (.iconst 0, 1) := by decide +kernel
theorem eX5_clashAt_3 : decode cX5_clashAt 3 = .ok (.istore_n 3, 1) := by decide +kernel
theorem eX5_clashAt_4 : decode cX5_clashAt 4 = .ok (.iload_n 3, 1) := by decide +kernel
theorem eX5_clashAt_5 : decode cX5_clashAt 5 = .ok (.aload_n 0, 1) := by decide +kernel
theorem eX5_clashAt_6 : decode cX5_clashAt 6 = .ok (.getfield 23, 3) := by decide +kernel
theorem eX5_clashAt_9 : decode cX5_clashAt 9 = .ok (.if_icmp .gt 37, 3) := by decide +kernel
theorem eX5_clashAt_12 : decode cX5_clashAt 12 = .ok (.iload_n 3, 1) := by decide +kernel
theorem eX5_clashAt_13 : decode cX5_clashAt 13 = .ok (.sipush 4096, 3) := by decide +kernel
theorem eX5_clashAt_16 : decode cX5_clashAt 16 = .ok (.if_icmp .ge 30, 3) := by decide +kernel
theorem eX5_clashAt_19 : decode cX5_clashAt 19 = .ok (.aload_n 0, 1) := by decide +kernel
theorem eX5_clashAt_20 : decode cX5_clashAt 20 = .ok (.getfield 11, 3) := by decide +kernel
theorem eX5_clashAt_23 : decode cX5_clashAt 23 = .ok (.iload_n 3, 1) := by decide +kernel
theorem eX5_clashAt_24 : decode cX5_clashAt 24 = .ok (.baload, 1) := by decide +kernel
theorem eX5_clashAt_25 : decode cX5_clashAt 25 = .ok (.iconst 3, 1) := by decide +kernel
theorem eX5_clashAt_26 : decode cX5_clashAt 26 = .ok (.if_icmp .ne 14, 3) := by decide +kernel
theorem eX5_clashAt_29 : decode cX5_clashAt 29 = .ok (.iload_n 2, 1) := by decide +kernel
theorem eX5_clashAt_30 : decode cX5_clashAt 30 = .ok (.iload_n 1, 1) := by decide +kernel
theorem eX5_clashAt_31 : decode cX5_clashAt 31 = .ok (.if_icmp .ne 6, 3) := by decide +kernel
theorem eX5_clashAt_34 : decode cX5_clashAt 34 = .ok (.iload_n 3, 1) := by decide +kernel
theorem eX5_clashAt_35 : decode cX5_clashAt 35 = .ok (.i2l, 1) := by decide +kernel
theorem eX5_clashAt_36 : decode cX5_clashAt 36 = .ok (.lreturn, 1) := by decide +kernel
theorem eX5_clashAt_37 : decode cX5_clashAt 37 = .ok (.iinc 2 1, 3) := by decide +kernel
theorem eX5_clashAt_40 : decode cX5_clashAt 40 = .ok (.iinc 3 1, 3) := by decide +kernel
theorem eX5_clashAt_43 : decode cX5_clashAt 43 = .ok (.goto (-39), 3) := by decide +kernel
theorem eX5_clashAt_46 : decode cX5_clashAt 46 = .ok (.ldc2_w 54, 3) := by decide +kernel
theorem eX5_clashAt_49 : decode cX5_clashAt 49 = .ok (.lreturn, 1) := by decide +kernel
def C_X5_clashAt (s : ST) (p : Int) (Q : ST → Int64 → Prop) : Prop := bx <| RA s → R32 p → q_met mX5_clashAt (qs layX s) [.ref 67, .int (Int32.ofInt p)] (PL layX Q)
theorem C_X5_clashAt.mono {s : ST} {p : Int} {Q Q' : ST → Int64 → Prop} (h : C_X5_clashAt s p Q) (hq : ∀ s v, Q s v → Q' s v) : C_X5_clashAt s p Q' := ⟨fun hA hrp => q_met.mono (h.1 hA hrp) (fun _ _ => PL.mono hq), trivial⟩
def K_X5_clashAt_4 (s : ST) (a1 : Int) (a2 : Int) (a3 : Int) (Q : ST → Int64 → Prop) : Prop := bx <| RA s → R32 a1 → R32 a2 → R32 a3 → q_K mX5_clashAt (qs layX s) 0 0 4 [(0, .ref 67), (1, .int (Int32.ofInt a1)), (2, .int (Int32.ofInt a2)), (3, .int (Int32.ofInt a3))] [] (q_fin mX5_clashAt (PL layX Q))
set_option maxRecDepth 20000 in
theorem s_X5_clashAt_4 {s : ST} {a1 : Int} {a2 : Int} {a3 : Int} {Q : ST → Int64 → Prop} (h : RA s → R32 a1 → R32 a2 → R32 a3 → ((s.1 67 3 < a3 → Q s (-1)) ∧ (¬ s.1 67 3 < a3 → ((4096 ≤ a3 → Q s (-1)) ∧ (¬ 4096 ≤ a3 → (((0 : Int) ≤ a3 ∧ a3 < 4096) ∧ ((¬ s.1 68 a3 = 3 → (R32 (a3 + 1) ∧ K_X5_clashAt_4 s a1 a2 (a3 + 1) Q)) ∧ (s.1 68 a3 = 3 → ((¬ a2 = a1 → (R32 (a3 + 1) ∧ K_X5_clashAt_4 s a1 (w32 (a2 + 1)) (a3 + 1) Q)) ∧ (a2 = a1 → Q s (Int64.ofInt a3))))))))))) : K_X5_clashAt_4 s a1 a2 a3 Q := by
  refine ⟨?_, trivial⟩
  intro hA hra1 hra2 hra3
  have h := h hA hra1 hra2 hra3
  refine q_iload_n eX5_clashAt_4 rfl ?_
  refine q_aload_n eX5_clashAt_5 rfl ?_
  refine q_getf (c := 5) (n := 0) (k := 3) (v := .int (Int32.ofInt (s.1 67 3))) eX5_clashAt_6 rfl (by decide) (by decide) fX5_23 rfl ?_
  refine q_cz_gt (tgt := 46) (a := a3) (b := s.1 67 3) eX5_clashAt_9 (by decide) (ofz hra3) (ofz (hA _ _)) (fun c9 => ?_) (fun c9 => ?_)
  · have h := h.1 c9
    refine q_ldc2 (v := (-1)) eX5_clashAt_46 nX5_54 ?_
    exact q_lret eX5_clashAt_49 rfl ⟨_, _, rfl, hA, rfl, h⟩
  · have h := h.2 c9
    refine q_iload_n eX5_clashAt_12 rfl ?_
    refine q_si (v := Int32.ofInt 4096) eX5_clashAt_13 rfl ?_
    refine q_cz_ge (tgt := 46) (a := a3) (b := 4096) eX5_clashAt_16 (by decide) (ofz hra3) (ofz (r32l rfl)) (fun c16 => ?_) (fun c16 => ?_)
    · have h := h.1 c16
      refine q_ldc2 (v := (-1)) eX5_clashAt_46 nX5_54 ?_
      exact q_lret eX5_clashAt_49 rfl ⟨_, _, rfl, hA, rfl, h⟩
    · have h := h.2 c16
      refine q_aload_n eX5_clashAt_19 rfl ?_
      refine q_getR (c := 5) (n := 0) (k := 5) (a := 68) eX5_clashAt_20 rfl (by decide) (by decide) fX5_11 rfl rfl ?_
      refine q_iload_n eX5_clashAt_23 rfl ?_
      have f1 := h.1
      have h := h.2
      refine z_bald (n := 4096) eX5_clashAt_24 rfl (ofz hra3) f1 ?_
      refine q_topI (v := Int32.ofInt (s.1 68 a3)) rfl ?_
      refine q_ic (v := Int32.ofInt 3) eX5_clashAt_25 rfl ?_
      refine q_cz_ne (tgt := 40) (a := s.1 68 a3) (b := 3) eX5_clashAt_26 (by decide) (ofz (hA _ _)) (ofz (r32l rfl)) (fun c26 => ?_) (fun c26 => ?_)
      · have h := h.1 c26
        have r2 := h.1
        have h := h.2
        refine z_inc (m := 1) eX5_clashAt_40 rfl (Nat.le_of_ble_eq_true rfl) rfl ?_
        refine q_goto (tgt := 4) eX5_clashAt_43 (by decide) ?_
        exact q_subL rfl (h.1 hA hra1 hra2 r2)
      · have h := h.2 c26
        refine q_iload_n eX5_clashAt_29 rfl ?_
        refine q_iload_n eX5_clashAt_30 rfl ?_
        refine q_cz_ne (tgt := 37) (a := a2) (b := a1) eX5_clashAt_31 (by decide) (ofz hra2) (ofz hra1) (fun c31 => ?_) (fun c31 => ?_)
        · have h := h.1 c31
          refine z_incW (m := 1) eX5_clashAt_37 rfl (Nat.le_of_ble_eq_true rfl) rfl ?_
          have r3 := h.1
          have h := h.2
          refine z_inc (m := 1) eX5_clashAt_40 rfl (Nat.le_of_ble_eq_true rfl) rfl ?_
          refine q_goto (tgt := 4) eX5_clashAt_43 (by decide) ?_
          exact q_subL rfl (h.1 hA hra1 (w32_r _) r3)
        · have h := h.2 c31
          refine q_iload_n eX5_clashAt_34 rfl ?_
          refine z_i2l eX5_clashAt_35 hra3 ?_
          exact q_lret eX5_clashAt_36 rfl ⟨_, _, rfl, hA, rfl, h⟩
set_option maxRecDepth 20000 in
theorem s_X5_clashAt {s : ST} {p : Int} {Q : ST → Int64 → Prop} (h : RA s → R32 p → K_X5_clashAt_4 s p 0 0 Q) : C_X5_clashAt s p Q := by
  refine ⟨?_, trivial⟩
  intro hA hrp
  have h := h hA hrp
  refine q_enter (by decide) (Nat.le_of_ble_eq_true rfl) ?_
  refine q_ic (v := Int32.ofInt 0) eX5_clashAt_0 rfl ?_
  refine q_istore_n eX5_clashAt_1 (Nat.le_of_ble_eq_true rfl) ?_
  refine q_ic (v := Int32.ofInt 0) eX5_clashAt_2 rfl ?_
  refine q_istore_n eX5_clashAt_3 (Nat.le_of_ble_eq_true rfl) ?_
  exact q_subL rfl (h.1 hA hrp (r32l rfl) (r32l rfl))
theorem eX5_mendNumbered_0 : decode cX5_mendNumbered 0 = .ok (.iconst 0, 1) := by decide +kernel
theorem eX5_mendNumbered_1 : decode cX5_mendNumbered 1 = .ok (.istore_n 2, 1) := by decide +kernel
theorem eX5_mendNumbered_2 : decode cX5_mendNumbered 2 = .ok (.aload_n 0, 1) := by decide +kernel
theorem eX5_mendNumbered_3 : decode cX5_mendNumbered 3 = .ok (.getfield 23, 3) := by decide +kernel
theorem eX5_mendNumbered_6 : decode cX5_mendNumbered 6 = .ok (.sipush 4095, 3) := by decide +kernel
theorem eX5_mendNumbered_9 : decode cX5_mendNumbered 9 = .ok (.invokestatic 56, 3) := by decide +kernel
theorem eX5_mendNumbered_12 : decode cX5_mendNumbered 12 = .ok (.istore_n 3, 1) := by decide +kernel
theorem eX5_mendNumbered_13 : decode cX5_mendNumbered 13 = .ok (.iload_n 3, 1) := by decide +kernel
theorem eX5_mendNumbered_14 : decode cX5_mendNumbered 14 = .ok (.ifCond .lt 37, 3) := by decide +kernel
theorem eX5_mendNumbered_17 : decode cX5_mendNumbered 17 = .ok (.aload_n 0, 1) := by decide +kernel
theorem eX5_mendNumbered_18 : decode cX5_mendNumbered 18 = .ok (.getfield 11, 3) := by decide +kernel
theorem eX5_mendNumbered_21 : decode cX5_mendNumbered 21 = .ok (.iload_n 3, 1) := by decide +kernel
theorem eX5_mendNumbered_22 : decode cX5_mendNumbered 22 = .ok (.baload, 1) := by decide +kernel
theorem eX5_mendNumbered_23 : decode cX5_mendNumbered 23 = .ok (.iconst 4, 1) := by decide +kernel
theorem eX5_mendNumbered_24 : decode cX5_mendNumbered 24 = .ok (.if_icmp .ne 21, 3) := by decide +kernel
theorem eX5_mendNumbered_27 : decode cX5_mendNumbered 27 = .ok (.iload_n 2, 1) := by decide +kernel
theorem eX5_mendNumbered_28 : decode cX5_mendNumbered 28 = .ok (.iload_n 1, 1) := by decide +kernel
theorem eX5_mendNumbered_29 : decode cX5_mendNumbered 29 = .ok (.if_icmp .ne 13, 3) := by decide +kernel
theorem eX5_mendNumbered_32 : decode cX5_mendNumbered 32 = .ok (.aload_n 0, 1) := by decide +kernel
theorem eX5_mendNumbered_33 : decode cX5_mendNumbered 33 = .ok (.getfield 23, 3) := by decide +kernel
theorem eX5_mendNumbered_36 : decode cX5_mendNumbered 36 = .ok (.iload_n 3, 1) := by decide +kernel
theorem eX5_mendNumbered_37 : decode cX5_mendNumbered 37 = .ok (.iconst (-1), 1) := by decide +kernel
theorem eX5_mendNumbered_38 : decode cX5_mendNumbered 38 = .ok (.ixor, 1) := by decide +kernel
theorem eX5_mendNumbered_39 : decode cX5_mendNumbered 39 = .ok (.iand, 1) := by decide +kernel
theorem eX5_mendNumbered_40 : decode cX5_mendNumbered 40 = .ok (.i2l, 1) := by decide +kernel
theorem eX5_mendNumbered_41 : decode cX5_mendNumbered 41 = .ok (.lreturn, 1) := by decide +kernel
theorem eX5_mendNumbered_42 : decode cX5_mendNumbered 42 = .ok (.iinc 2 1, 3) := by decide +kernel
theorem eX5_mendNumbered_45 : decode cX5_mendNumbered 45 = .ok (.iinc 3 (-1), 3) := by decide +kernel
theorem eX5_mendNumbered_48 : decode cX5_mendNumbered 48 = .ok (.goto (-35), 3) := by decide +kernel
theorem eX5_mendNumbered_51 : decode cX5_mendNumbered 51 = .ok (.ldc2_w 54, 3) := by decide +kernel
theorem eX5_mendNumbered_54 : decode cX5_mendNumbered 54 = .ok (.lreturn, 1) := by decide +kernel
def C_X5_mendNumbered (s : ST) (p : Int) (Q : ST → Int64 → Prop) : Prop := bx <| RA s → R32 p → q_met mX5_mendNumbered (qs layX s) [.ref 67, .int (Int32.ofInt p)] (PL layX Q)
theorem C_X5_mendNumbered.mono {s : ST} {p : Int} {Q Q' : ST → Int64 → Prop} (h : C_X5_mendNumbered s p Q) (hq : ∀ s v, Q s v → Q' s v) : C_X5_mendNumbered s p Q' := ⟨fun hA hrp => q_met.mono (h.1 hA hrp) (fun _ _ => PL.mono hq), trivial⟩
def K_X5_mendNumbered_13 (s : ST) (a1 : Int) (a2 : Int) (a3 : Int) (Q : ST → Int64 → Prop) : Prop := bx <| RA s → R32 a1 → R32 a2 → R32 a3 → q_K mX5_mendNumbered (qs layX s) 0 0 13 [(0, .ref 67), (1, .int (Int32.ofInt a1)), (2, .int (Int32.ofInt a2)), (3, .int (Int32.ofInt a3))] [] (q_fin mX5_mendNumbered (PL layX Q))
set_option maxRecDepth 20000 in
theorem s_X5_mendNumbered_13 {s : ST} {a1 : Int} {a2 : Int} {a3 : Int} {Q : ST → Int64 → Prop} (h : RA s → R32 a1 → R32 a2 → R32 a3 → ((a3 < 0 → Q s (-1)) ∧ (¬ a3 < 0 → (((0 : Int) ≤ a3 ∧ a3 < 4096) ∧ ((¬ s.1 68 a3 = 4 → (R32 (a3 - 1) ∧ K_X5_mendNumbered_13 s a1 a2 (a3 - 1) Q)) ∧ (s.1 68 a3 = 4 → ((¬ a2 = a1 → (R32 (a3 - 1) ∧ K_X5_mendNumbered_13 s a1 (w32 (a2 + 1)) (a3 - 1) Q)) ∧ (a2 = a1 → Q s (Int64.ofInt (iand (s.1 67 3) (ixor a3 (-1)))))))))))) : K_X5_mendNumbered_13 s a1 a2 a3 Q := by
  refine ⟨?_, trivial⟩
  intro hA hra1 hra2 hra3
  have h := h hA hra1 hra2 hra3
  refine q_iload_n eX5_mendNumbered_13 rfl ?_
  refine q_iz_lt (tgt := 51) (a := a3) eX5_mendNumbered_14 (by decide) (ofz hra3) (fun c14 => ?_) (fun c14 => ?_)
  · have h := h.1 c14
    refine q_ldc2 (v := (-1)) eX5_mendNumbered_51 nX5_54 ?_
    exact q_lret eX5_mendNumbered_54 rfl ⟨_, _, rfl, hA, rfl, h⟩
  · have h := h.2 c14
    refine q_aload_n eX5_mendNumbered_17 rfl ?_
    refine q_getR (c := 5) (n := 0) (k := 5) (a := 68) eX5_mendNumbered_18 rfl (by decide) (by decide) fX5_11 rfl rfl ?_
    refine q_iload_n eX5_mendNumbered_21 rfl ?_
    have f1 := h.1
    have h := h.2
    refine z_bald (n := 4096) eX5_mendNumbered_22 rfl (ofz hra3) f1 ?_
    refine q_topI (v := Int32.ofInt (s.1 68 a3)) rfl ?_
    refine q_ic (v := Int32.ofInt 4) eX5_mendNumbered_23 rfl ?_
    refine q_cz_ne (tgt := 45) (a := s.1 68 a3) (b := 4) eX5_mendNumbered_24 (by decide) (ofz (hA _ _)) (ofz (r32l rfl)) (fun c24 => ?_) (fun c24 => ?_)
    · have h := h.1 c24
      have r2 := h.1
      have h := h.2
      refine z_incN (m := 1) eX5_mendNumbered_45 rfl (Nat.le_of_ble_eq_true rfl) rfl ?_
      refine q_goto (tgt := 13) eX5_mendNumbered_48 (by decide) ?_
      exact q_subL rfl (h.1 hA hra1 hra2 r2)
    · have h := h.2 c24
      refine q_iload_n eX5_mendNumbered_27 rfl ?_
      refine q_iload_n eX5_mendNumbered_28 rfl ?_
      refine q_cz_ne (tgt := 42) (a := a2) (b := a1) eX5_mendNumbered_29 (by decide) (ofz hra2) (ofz hra1) (fun c29 => ?_) (fun c29 => ?_)
      · have h := h.1 c29
        refine z_incW (m := 1) eX5_mendNumbered_42 rfl (Nat.le_of_ble_eq_true rfl) rfl ?_
        have r3 := h.1
        have h := h.2
        refine z_incN (m := 1) eX5_mendNumbered_45 rfl (Nat.le_of_ble_eq_true rfl) rfl ?_
        refine q_goto (tgt := 13) eX5_mendNumbered_48 (by decide) ?_
        exact q_subL rfl (h.1 hA hra1 (w32_r _) r3)
      · have h := h.2 c29
        refine q_aload_n eX5_mendNumbered_32 rfl ?_
        refine q_getf (c := 5) (n := 0) (k := 3) (v := .int (Int32.ofInt (s.1 67 3))) eX5_mendNumbered_33 rfl (by decide) (by decide) fX5_23 rfl ?_
        refine q_iload_n eX5_mendNumbered_36 rfl ?_
        refine q_ic (v := Int32.ofInt (-1)) eX5_mendNumbered_37 rfl ?_
        refine z_ixor eX5_mendNumbered_38 ?_
        refine z_iand eX5_mendNumbered_39 ?_
        refine z_i2l eX5_mendNumbered_40 (iand_r _ _) ?_
        exact q_lret eX5_mendNumbered_41 rfl ⟨_, _, rfl, hA, rfl, h⟩
set_option maxRecDepth 20000 in
theorem s_X5_mendNumbered {s : ST} {p : Int} {Q : ST → Int64 → Prop} (h : RA s → R32 p → K_X5_mendNumbered_13 s p 0 (zmin (s.1 67 3) 4095) Q) : C_X5_mendNumbered s p Q := by
  refine ⟨?_, trivial⟩
  intro hA hrp
  have h := h hA hrp
  refine q_enter (by decide) (Nat.le_of_ble_eq_true rfl) ?_
  refine q_ic (v := Int32.ofInt 0) eX5_mendNumbered_0 rfl ?_
  refine q_istore_n eX5_mendNumbered_1 (Nat.le_of_ble_eq_true rfl) ?_
  refine q_aload_n eX5_mendNumbered_2 rfl ?_
  refine q_getf (c := 5) (n := 0) (k := 3) (v := .int (Int32.ofInt (s.1 67 3))) eX5_mendNumbered_3 rfl (by decide) (by decide) fX5_23 rfl ?_
  refine q_si (v := Int32.ofInt 4095) eX5_mendNumbered_6 rfl ?_
  refine z_mmin eX5_mendNumbered_9 lX5_56 q_mm1 q_mm2 q_mm3 ⟨Nat.le_of_ble_eq_true rfl, Nat.le_of_ble_eq_true rfl⟩ (q_r8 rfl) ⟨Nat.zero_le _, Nat.zero_le _⟩ (hA _ _) (r32l rfl) ?_
  refine q_istore_n eX5_mendNumbered_12 (Nat.le_of_ble_eq_true rfl) ?_
  exact q_subL rfl (h.1 hA hrp (r32l rfl) (zmin_r (hA _ _) (r32l rfl)))
theorem eX5_countBeside_0 : decode cX5_countBeside 0 = .ok (.iconst 0, 1) := by decide +kernel
theorem eX5_countBeside_1 : decode cX5_countBeside 1 = .ok (.istore_n 3, 1) := by decide +kernel
theorem eX5_countBeside_2 : decode cX5_countBeside 2 = .ok (.iconst 0, 1) := by decide +kernel
theorem eX5_countBeside_3 : decode cX5_countBeside 3 = .ok (.istore 4, 2) := by decide +kernel
theorem eX5_countBeside_5 : decode cX5_countBeside 5 = .ok (.iload 4, 2) := by decide +kernel
theorem eX5_countBeside_7 : decode cX5_countBeside 7 = .ok (.aload_n 0, 1) := by decide +kernel
theorem eX5_countBeside_8 : decode cX5_countBeside 8 = .ok (.getfield 23, 3) := by decide +kernel
theorem eX5_countBeside_11 : decode cX5_countBeside 11 = .ok (.if_icmp .gt 43, 3) := by decide +kernel
theorem eX5_countBeside_14 : decode cX5_countBeside 14 = .ok (.iload 4, 2) := by decide +kernel
theorem eX5_countBeside_16 : decode cX5_countBeside 16 = .ok (.sipush 4096, 3) := by decide +kernel
theorem eX5_countBeside_19 : decode cX5_countBeside 19 = .ok (.if_icmp .ge 35, 3) := by decide +kernel
theorem eX5_countBeside_22 : decode cX5_countBeside 22 = .ok (.aload_n 0, 1) := by decide +kernel
theorem eX5_countBeside_23 : decode cX5_countBeside 23 = .ok (.getfield 11, 3) := by decide +kernel
theorem eX5_countBeside_26 : decode cX5_countBeside 26 = .ok (.iload 4, 2) := by decide +kernel
theorem eX5_countBeside_28 : decode cX5_countBeside 28 = .ok (.baload, 1) := by decide +kernel
theorem eX5_countBeside_29 : decode cX5_countBeside 29 = .ok (.iconst 4, 1) := by decide +kernel
theorem eX5_countBeside_30 : decode cX5_countBeside 30 = .ok (.if_icmp .ne 18, 3) := by decide +kernel
theorem eX5_countBeside_33 : decode cX5_countBeside 33 = .ok (.lload_n 1, 1) := by decide +kernel
theorem eX5_countBeside_34 : decode cX5_countBeside 34 = .ok (.iload 4, 2) := by decide +kernel
theorem eX5_countBeside_36 : decode cX5_countBeside 36 = .ok (.iconst (-1), 1) := by decide +kernel
theorem eX5_countBeside_37 : decode cX5_countBeside 37 = .ok (.ixor, 1) := by decide +kernel
theorem eX5_countBeside_38 : decode cX5_countBeside 38 = .ok (.i2l, 1) := by decide +kernel
theorem eX5_countBeside_39 : decode cX5_countBeside 39 = .ok (.land, 1) := by decide +kernel
theorem eX5_countBeside_40 : decode cX5_countBeside 40 = .ok (.lconst 0, 1) := by decide +kernel
theorem eX5_countBeside_41 : decode cX5_countBeside 41 = .ok (.lcmp, 1) := by decide +kernel
theorem eX5_countBeside_42 : decode cX5_countBeside 42 = .ok (.ifCond .ne 6, 3) := by decide +kernel
theorem eX5_countBeside_45 : decode cX5_countBeside 45 = .ok (.iinc 3 1, 3) := by decide +kernel
theorem eX5_countBeside_48 : decode cX5_countBeside 48 = .ok (.iinc 4 1, 3) := by decide +kernel
theorem eX5_countBeside_51 : decode cX5_countBeside 51 = .ok (.goto (-46), 3) := by decide +kernel
theorem eX5_countBeside_54 : decode cX5_countBeside 54 = .ok (.iload_n 3, 1) := by decide +kernel
theorem eX5_countBeside_55 : decode cX5_countBeside 55 = .ok (.ireturn, 1) := by decide +kernel
def C_X5_countBeside (s : ST) (p : Int64) (Q : ST → Int → Prop) : Prop := bx <| RA s → q_met mX5_countBeside (qs layX s) [.ref 67, .long p] (PI layX Q)
theorem C_X5_countBeside.mono {s : ST} {p : Int64} {Q Q' : ST → Int → Prop} (h : C_X5_countBeside s p Q) (hq : ∀ s v, Q s v → Q' s v) : C_X5_countBeside s p Q' := ⟨fun hA => q_met.mono (h.1 hA) (fun _ _ => PI.mono hq), trivial⟩
def K_X5_countBeside_5 (s : ST) (a1 : Int64) (a3 : Int) (a4 : Int) (Q : ST → Int → Prop) : Prop := bx <| RA s → R32 a3 → R32 a4 → q_K mX5_countBeside (qs layX s) 0 0 5 [(0, .ref 67), (1, .long a1), (3, .int (Int32.ofInt a3)), (4, .int (Int32.ofInt a4))] [] (q_fin mX5_countBeside (PI layX Q))
set_option maxRecDepth 20000 in
theorem s_X5_countBeside_5 {s : ST} {a1 : Int64} {a3 : Int} {a4 : Int} {Q : ST → Int → Prop} (h : RA s → R32 a3 → R32 a4 → ((s.1 67 3 < a4 → Q s a3) ∧ (¬ s.1 67 3 < a4 → ((4096 ≤ a4 → Q s a3) ∧ (¬ 4096 ≤ a4 → (((0 : Int) ≤ a4 ∧ a4 < 4096) ∧ ((¬ s.1 68 a4 = 4 → (R32 (a4 + 1) ∧ K_X5_countBeside_5 s a1 a3 (a4 + 1) Q)) ∧ (s.1 68 a4 = 4 → ((¬ (a1 &&& (Int64.ofInt (ixor a4 (-1)))) = 0 → (R32 (a4 + 1) ∧ K_X5_countBeside_5 s a1 a3 (a4 + 1) Q)) ∧ ((a1 &&& (Int64.ofInt (ixor a4 (-1)))) = 0 → (R32 (a4 + 1) ∧ K_X5_countBeside_5 s a1 (w32 (a3 + 1)) (a4 + 1) Q))))))))))) : K_X5_countBeside_5 s a1 a3 a4 Q := by
  refine ⟨?_, trivial⟩
  intro hA hra3 hra4
  have h := h hA hra3 hra4
  refine q_iload eX5_countBeside_5 rfl ?_
  refine q_aload_n eX5_countBeside_7 rfl ?_
  refine q_getf (c := 5) (n := 0) (k := 3) (v := .int (Int32.ofInt (s.1 67 3))) eX5_countBeside_8 rfl (by decide) (by decide) fX5_23 rfl ?_
  refine q_cz_gt (tgt := 54) (a := a4) (b := s.1 67 3) eX5_countBeside_11 (by decide) (ofz hra4) (ofz (hA _ _)) (fun c11 => ?_) (fun c11 => ?_)
  · have h := h.1 c11
    refine q_iload_n eX5_countBeside_54 rfl ?_
    exact q_iret eX5_countBeside_55 rfl ⟨_, _, rfl, hA, hra3, rfl, h⟩
  · have h := h.2 c11
    refine q_iload eX5_countBeside_14 rfl ?_
    refine q_si (v := Int32.ofInt 4096) eX5_countBeside_16 rfl ?_
    refine q_cz_ge (tgt := 54) (a := a4) (b := 4096) eX5_countBeside_19 (by decide) (ofz hra4) (ofz (r32l rfl)) (fun c19 => ?_) (fun c19 => ?_)
    · have h := h.1 c19
      refine q_iload_n eX5_countBeside_54 rfl ?_
      exact q_iret eX5_countBeside_55 rfl ⟨_, _, rfl, hA, hra3, rfl, h⟩
    · have h := h.2 c19
      refine q_aload_n eX5_countBeside_22 rfl ?_
      refine q_getR (c := 5) (n := 0) (k := 5) (a := 68) eX5_countBeside_23 rfl (by decide) (by decide) fX5_11 rfl rfl ?_
      refine q_iload eX5_countBeside_26 rfl ?_
      have f1 := h.1
      have h := h.2
      refine z_bald (n := 4096) eX5_countBeside_28 rfl (ofz hra4) f1 ?_
      refine q_topI (v := Int32.ofInt (s.1 68 a4)) rfl ?_
      refine q_ic (v := Int32.ofInt 4) eX5_countBeside_29 rfl ?_
      refine q_cz_ne (tgt := 48) (a := s.1 68 a4) (b := 4) eX5_countBeside_30 (by decide) (ofz (hA _ _)) (ofz (r32l rfl)) (fun c30 => ?_) (fun c30 => ?_)
      · have h := h.1 c30
        have r2 := h.1
        have h := h.2
        refine z_inc (m := 1) eX5_countBeside_48 rfl (Nat.le_of_ble_eq_true rfl) rfl ?_
        refine q_goto (tgt := 5) eX5_countBeside_51 (by decide) ?_
        exact q_subL rfl (h.1 hA hra3 r2)
      · have h := h.2 c30
        refine q_lload_n eX5_countBeside_33 rfl ?_
        refine q_iload eX5_countBeside_34 rfl ?_
        refine q_ic (v := Int32.ofInt (-1)) eX5_countBeside_36 rfl ?_
        refine z_ixor eX5_countBeside_37 ?_
        refine z_i2l eX5_countBeside_38 (ixor_r _ _) ?_
        refine q_land eX5_countBeside_39 ?_
        refine q_lc (v := 0) eX5_countBeside_40 rfl ?_
        refine q_lcmp eX5_countBeside_41 ?_
        refine z_lc_ne (tgt := 48) eX5_countBeside_42 (by decide) (fun c42 => ?_) (fun c42 => ?_)
        · have h := h.1 c42
          have r3 := h.1
          have h := h.2
          refine z_inc (m := 1) eX5_countBeside_48 rfl (Nat.le_of_ble_eq_true rfl) rfl ?_
          refine q_goto (tgt := 5) eX5_countBeside_51 (by decide) ?_
          exact q_subL rfl (h.1 hA hra3 r3)
        · have h := h.2 c42
          refine z_incW (m := 1) eX5_countBeside_45 rfl (Nat.le_of_ble_eq_true rfl) rfl ?_
          have r4 := h.1
          have h := h.2
          refine z_inc (m := 1) eX5_countBeside_48 rfl (Nat.le_of_ble_eq_true rfl) rfl ?_
          refine q_goto (tgt := 5) eX5_countBeside_51 (by decide) ?_
          exact q_subL rfl (h.1 hA (w32_r _) r4)
set_option maxRecDepth 20000 in
theorem s_X5_countBeside {s : ST} {p : Int64} {Q : ST → Int → Prop} (h : RA s → K_X5_countBeside_5 s p 0 0 Q) : C_X5_countBeside s p Q := by
  refine ⟨?_, trivial⟩
  intro hA
  have h := h hA
  refine q_enter (by decide) (Nat.le_of_ble_eq_true rfl) ?_
  refine q_ic (v := Int32.ofInt 0) eX5_countBeside_0 rfl ?_
  refine q_istore_n eX5_countBeside_1 (Nat.le_of_ble_eq_true rfl) ?_
  refine q_ic (v := Int32.ofInt 0) eX5_countBeside_2 rfl ?_
  refine q_istore eX5_countBeside_3 (Nat.le_of_ble_eq_true rfl) ?_
  exact q_subL rfl (h.1 hA (r32l rfl) (r32l rfl))
theorem eX5_commonBeside_0 : decode cX5_commonBeside 0 = .ok (.aload_n 0, 1) := by decide +kernel
theorem eX5_commonBeside_1 : decode cX5_commonBeside 1 = .ok (.getfield 23, 3) := by decide +kernel
theorem eX5_commonBeside_4 : decode cX5_commonBeside 4 = .ok (.i2l, 1) := by decide +kernel
theorem eX5_commonBeside_5 : decode cX5_commonBeside 5 = .ok (.lstore_n 3, 1) := by decide +kernel
theorem eX5_commonBeside_6 : decode cX5_commonBeside 6 = .ok (.iconst 0, 1) := by decide +kernel
theorem eX5_commonBeside_7 : decode cX5_commonBeside 7 = .ok (.istore 5, 2) := by decide +kernel
theorem eX5_commonBeside_9 : decode cX5_commonBeside 9 = .ok (.iconst 0, 1) := by decide +kernel
theorem eX5_commonBeside_10 : decode cX5_commonBeside 10 = .ok (.istore 6, 2) := by decide +kernel
theorem eX5_commonBeside_12 : decode cX5_commonBeside 12 = .ok (.iload 6, 2) := by decide +kernel
theorem eX5_commonBeside_14 : decode cX5_commonBeside 14 = .ok (.aload_n 0, 1) := by decide +kernel
theorem eX5_commonBeside_15 : decode cX5_commonBeside 15 = .ok (.getfield 23, 3) := by decide +kernel
theorem eX5_commonBeside_18 : decode cX5_commonBeside 18 = .ok (.if_icmp .gt 51, 3) := by decide +kernel
theorem eX5_commonBeside_21 : decode cX5_commonBeside 21 = .ok (.iload 6, 2) := by decide +kernel
theorem eX5_commonBeside_23 : decode cX5_commonBeside 23 = .ok (.sipush 4096, 3) := by decide +kernel
theorem eX5_commonBeside_26 : decode cX5_commonBeside 26 = .ok (.if_icmp .ge 43, 3) := by decide +kernel
theorem eX5_commonBeside_29 : decode cX5_commonBeside 29 = .ok (.aload_n 0, 1) := by decide +kernel
theorem eX5_commonBeside_30 : decode cX5_commonBeside 30 = .ok (.getfield 11, 3) := by decide +kernel
theorem eX5_commonBeside_33 : decode cX5_commonBeside 33 = .ok (.iload 6, 2) := by decide +kernel
theorem eX5_commonBeside_35 : decode cX5_commonBeside 35 = .ok (.baload, 1) := by decide +kernel
theorem eX5_commonBeside_36 : decode cX5_commonBeside 36 = .ok (.iconst 4, 1) := by decide +kernel
theorem eX5_commonBeside_37 : decode cX5_commonBeside 37 = .ok (.if_icmp .ne 26, 3) := by decide +kernel
theorem eX5_commonBeside_40 : decode cX5_commonBeside 40 = .ok (.lload_n 1, 1) := by decide +kernel
theorem eX5_commonBeside_41 : decode cX5_commonBeside 41 = .ok (.iload 6, 2) := by decide +kernel
theorem eX5_commonBeside_43 : decode cX5_commonBeside 43 = .ok (.iconst (-1), 1) := by decide +kernel
theorem eX5_commonBeside_44 : decode cX5_commonBeside 44 = .ok (.ixor, 1) := by decide +kernel
theorem eX5_commonBeside_45 : decode cX5_commonBeside 45 = .ok (.i2l, 1) := by decide +kernel
theorem eX5_commonBeside_46 : decode cX5_commonBeside 46 = .ok (.land, 1) := by decide +kernel
theorem eX5_commonBeside_47 : decode cX5_commonBeside 47 = .ok (.lconst 0, 1) := by decide +kernel
theorem eX5_commonBeside_48 : decode cX5_commonBeside 48 = .ok (.lcmp, 1) := by decide +kernel
theorem eX5_commonBeside_49 : decode cX5_commonBeside 49 = .ok (.ifCond .ne 14, 3) := by decide +kernel
theorem eX5_commonBeside_52 : decode cX5_commonBeside 52 = .ok (.lload_n 3, 1) := by decide +kernel
theorem eX5_commonBeside_53 : decode cX5_commonBeside 53 = .ok (.iload 6, 2) := by decide +kernel
theorem eX5_commonBeside_55 : decode cX5_commonBeside 55 = .ok (.iconst (-1), 1) := by decide +kernel
theorem eX5_commonBeside_56 : decode cX5_commonBeside 56 = .ok (.ixor, 1) := by decide +kernel
theorem eX5_commonBeside_57 : decode cX5_commonBeside 57 = .ok (.i2l, 1) := by decide +kernel
theorem eX5_commonBeside_58 : decode cX5_commonBeside 58 = .ok (.land, 1) := by decide +kernel
theorem eX5_commonBeside_59 : decode cX5_commonBeside 59 = .ok (.lstore_n 3, 1) := by decide +kernel
theorem eX5_commonBeside_60 : decode cX5_commonBeside 60 = .ok (.iconst 1, 1) := by decide +kernel
theorem eX5_commonBeside_61 : decode cX5_commonBeside 61 = .ok (.istore 5, 2) := by decide +kernel
theorem eX5_commonBeside_63 : decode cX5_commonBeside 63 = .ok (.iinc 6 1, 3) := by decide +kernel
theorem eX5_commonBeside_66 : decode cX5_commonBeside 66 = .ok (.goto (-54), 3) := by decide +kernel
theorem eX5_commonBeside_69 : decode cX5_commonBeside 69 = .ok (.iload 5, 2) := by decide +kernel
theorem eX5_commonBeside_71 : decode cX5_commonBeside 71 = .ok (.ifCond .eq 7, 3) := by decide +kernel
theorem eX5_commonBeside_74 : decode cX5_commonBeside 74 = .ok (.lload_n 3, 1) := by decide +kernel
theorem eX5_commonBeside_75 : decode cX5_commonBeside 75 = .ok (.goto 4, 3) := by decide +kernel
theorem eX5_commonBeside_78 : decode cX5_commonBeside 78 = .ok (.lconst 0, 1) := by decide +kernel
theorem eX5_commonBeside_79 : decode cX5_commonBeside 79 = .ok (.lreturn, 1) := by decide +kernel
def C_X5_commonBeside (s : ST) (p : Int64) (Q : ST → Int64 → Prop) : Prop := bx <| RA s → q_met mX5_commonBeside (qs layX s) [.ref 67, .long p] (PL layX Q)
theorem C_X5_commonBeside.mono {s : ST} {p : Int64} {Q Q' : ST → Int64 → Prop} (h : C_X5_commonBeside s p Q) (hq : ∀ s v, Q s v → Q' s v) : C_X5_commonBeside s p Q' := ⟨fun hA => q_met.mono (h.1 hA) (fun _ _ => PL.mono hq), trivial⟩
def K_X5_commonBeside_69 (s : ST) (a3 : Int64) (a5 : Int) (Q : ST → Int64 → Prop) : Prop := bx <| RA s → R32 a5 → q_K mX5_commonBeside (qs layX s) 0 0 69 [(3, .long a3), (5, .int (Int32.ofInt a5))] [] (q_fin mX5_commonBeside (PL layX Q))
def K_X5_commonBeside_12 (s : ST) (a1 : Int64) (a3 : Int64) (a5 : Int) (a6 : Int) (Q : ST → Int64 → Prop) : Prop := bx <| RA s → R32 a5 → R32 a6 → q_K mX5_commonBeside (qs layX s) 0 0 12 [(0, .ref 67), (1, .long a1), (3, .long a3), (5, .int (Int32.ofInt a5)), (6, .int (Int32.ofInt a6))] [] (q_fin mX5_commonBeside (PL layX Q))
set_option maxRecDepth 20000 in
theorem s_X5_commonBeside_69 {s : ST} {a3 : Int64} {a5 : Int} {Q : ST → Int64 → Prop} (h : RA s → R32 a5 → ((a5 = 0 → Q s 0) ∧ (¬ a5 = 0 → Q s a3))) : K_X5_commonBeside_69 s a3 a5 Q := by
  refine ⟨?_, trivial⟩
  intro hA hra5
  have h := h hA hra5
  refine q_iload eX5_commonBeside_69 rfl ?_
  refine q_iz_eq (tgt := 78) (a := a5) eX5_commonBeside_71 (by decide) (ofz hra5) (fun c71 => ?_) (fun c71 => ?_)
  · have h := h.1 c71
    refine q_lc (v := 0) eX5_commonBeside_78 rfl ?_
    exact q_lret eX5_commonBeside_79 rfl ⟨_, _, rfl, hA, rfl, h⟩
  · have h := h.2 c71
    refine q_lload_n eX5_commonBeside_74 rfl ?_
    refine q_goto (tgt := 79) eX5_commonBeside_75 (by decide) ?_
    exact q_lret eX5_commonBeside_79 rfl ⟨_, _, rfl, hA, rfl, h⟩
set_option maxRecDepth 20000 in
theorem s_X5_commonBeside_12 {s : ST} {a1 : Int64} {a3 : Int64} {a5 : Int} {a6 : Int} {Q : ST → Int64 → Prop} (h : RA s → R32 a5 → R32 a6 → ((s.1 67 3 < a6 → K_X5_commonBeside_69 s a3 a5 Q) ∧ (¬ s.1 67 3 < a6 → ((4096 ≤ a6 → K_X5_commonBeside_69 s a3 a5 Q) ∧ (¬ 4096 ≤ a6 → (((0 : Int) ≤ a6 ∧ a6 < 4096) ∧ ((¬ s.1 68 a6 = 4 → (R32 (a6 + 1) ∧ K_X5_commonBeside_12 s a1 a3 a5 (a6 + 1) Q)) ∧ (s.1 68 a6 = 4 → ((¬ (a1 &&& (Int64.ofInt (ixor a6 (-1)))) = 0 → (R32 (a6 + 1) ∧ K_X5_commonBeside_12 s a1 a3 a5 (a6 + 1) Q)) ∧ ((a1 &&& (Int64.ofInt (ixor a6 (-1)))) = 0 → (R32 (a6 + 1) ∧ K_X5_commonBeside_12 s a1 (a3 &&& (Int64.ofInt (ixor a6 (-1)))) 1 (a6 + 1) Q))))))))))) : K_X5_commonBeside_12 s a1 a3 a5 a6 Q := by
  refine ⟨?_, trivial⟩
  intro hA hra5 hra6
  have h := h hA hra5 hra6
  refine q_iload eX5_commonBeside_12 rfl ?_
  refine q_aload_n eX5_commonBeside_14 rfl ?_
  refine q_getf (c := 5) (n := 0) (k := 3) (v := .int (Int32.ofInt (s.1 67 3))) eX5_commonBeside_15 rfl (by decide) (by decide) fX5_23 rfl ?_
  refine q_cz_gt (tgt := 69) (a := a6) (b := s.1 67 3) eX5_commonBeside_18 (by decide) (ofz hra6) (ofz (hA _ _)) (fun c18 => ?_) (fun c18 => ?_)
  · have h := h.1 c18
    exact q_subL rfl (h.1 hA hra5)
  · have h := h.2 c18
    refine q_iload eX5_commonBeside_21 rfl ?_
    refine q_si (v := Int32.ofInt 4096) eX5_commonBeside_23 rfl ?_
    refine q_cz_ge (tgt := 69) (a := a6) (b := 4096) eX5_commonBeside_26 (by decide) (ofz hra6) (ofz (r32l rfl)) (fun c26 => ?_) (fun c26 => ?_)
    · have h := h.1 c26
      exact q_subL rfl (h.1 hA hra5)
    · have h := h.2 c26
      refine q_aload_n eX5_commonBeside_29 rfl ?_
      refine q_getR (c := 5) (n := 0) (k := 5) (a := 68) eX5_commonBeside_30 rfl (by decide) (by decide) fX5_11 rfl rfl ?_
      refine q_iload eX5_commonBeside_33 rfl ?_
      have f1 := h.1
      have h := h.2
      refine z_bald (n := 4096) eX5_commonBeside_35 rfl (ofz hra6) f1 ?_
      refine q_topI (v := Int32.ofInt (s.1 68 a6)) rfl ?_
      refine q_ic (v := Int32.ofInt 4) eX5_commonBeside_36 rfl ?_
      refine q_cz_ne (tgt := 63) (a := s.1 68 a6) (b := 4) eX5_commonBeside_37 (by decide) (ofz (hA _ _)) (ofz (r32l rfl)) (fun c37 => ?_) (fun c37 => ?_)
      · have h := h.1 c37
        have r2 := h.1
        have h := h.2
        refine z_inc (m := 1) eX5_commonBeside_63 rfl (Nat.le_of_ble_eq_true rfl) rfl ?_
        refine q_goto (tgt := 12) eX5_commonBeside_66 (by decide) ?_
        exact q_subL rfl (h.1 hA hra5 r2)
      · have h := h.2 c37
        refine q_lload_n eX5_commonBeside_40 rfl ?_
        refine q_iload eX5_commonBeside_41 rfl ?_
        refine q_ic (v := Int32.ofInt (-1)) eX5_commonBeside_43 rfl ?_
        refine z_ixor eX5_commonBeside_44 ?_
        refine z_i2l eX5_commonBeside_45 (ixor_r _ _) ?_
        refine q_land eX5_commonBeside_46 ?_
        refine q_lc (v := 0) eX5_commonBeside_47 rfl ?_
        refine q_lcmp eX5_commonBeside_48 ?_
        refine z_lc_ne (tgt := 63) eX5_commonBeside_49 (by decide) (fun c49 => ?_) (fun c49 => ?_)
        · have h := h.1 c49
          have r3 := h.1
          have h := h.2
          refine z_inc (m := 1) eX5_commonBeside_63 rfl (Nat.le_of_ble_eq_true rfl) rfl ?_
          refine q_goto (tgt := 12) eX5_commonBeside_66 (by decide) ?_
          exact q_subL rfl (h.1 hA hra5 r3)
        · have h := h.2 c49
          refine q_lload_n eX5_commonBeside_52 rfl ?_
          refine q_iload eX5_commonBeside_53 rfl ?_
          refine q_ic (v := Int32.ofInt (-1)) eX5_commonBeside_55 rfl ?_
          refine z_ixor eX5_commonBeside_56 ?_
          refine z_i2l eX5_commonBeside_57 (ixor_r _ _) ?_
          refine q_land eX5_commonBeside_58 ?_
          refine q_lstore_n eX5_commonBeside_59 (Nat.le_of_ble_eq_true rfl) ?_
          refine q_ic (v := Int32.ofInt 1) eX5_commonBeside_60 rfl ?_
          refine q_istore eX5_commonBeside_61 (Nat.le_of_ble_eq_true rfl) ?_
          have r4 := h.1
          have h := h.2
          refine z_inc (m := 1) eX5_commonBeside_63 rfl (Nat.le_of_ble_eq_true rfl) rfl ?_
          refine q_goto (tgt := 12) eX5_commonBeside_66 (by decide) ?_
          exact q_subL rfl (h.1 hA (r32l rfl) r4)
set_option maxRecDepth 20000 in
theorem s_X5_commonBeside {s : ST} {p : Int64} {Q : ST → Int64 → Prop} (h : RA s → K_X5_commonBeside_12 s p (Int64.ofInt (s.1 67 3)) 0 0 Q) : C_X5_commonBeside s p Q := by
  refine ⟨?_, trivial⟩
  intro hA
  have h := h hA
  refine q_enter (by decide) (Nat.le_of_ble_eq_true rfl) ?_
  refine q_aload_n eX5_commonBeside_0 rfl ?_
  refine q_getf (c := 5) (n := 0) (k := 3) (v := .int (Int32.ofInt (s.1 67 3))) eX5_commonBeside_1 rfl (by decide) (by decide) fX5_23 rfl ?_
  refine z_i2l eX5_commonBeside_4 (hA _ _) ?_
  refine q_lstore_n eX5_commonBeside_5 (Nat.le_of_ble_eq_true rfl) ?_
  refine q_ic (v := Int32.ofInt 0) eX5_commonBeside_6 rfl ?_
  refine q_istore eX5_commonBeside_7 (Nat.le_of_ble_eq_true rfl) ?_
  refine q_ic (v := Int32.ofInt 0) eX5_commonBeside_9 rfl ?_
  refine q_istore eX5_commonBeside_10 (Nat.le_of_ble_eq_true rfl) ?_
  exact q_subL rfl (h.1 hA (r32l rfl) (r32l rfl))
theorem eX6_enter_0 : decode cX6_enter 0 = .ok (.aload_n 0, 1) := by decide +kernel
theorem eX6_enter_1 : decode cX6_enter 1 = .ok (.getfield 44, 3) := by decide +kernel
theorem eX6_enter_4 : decode cX6_enter 4 = .ok (.ifCond .lt 23, 3) := by decide +kernel
theorem eX6_enter_7 : decode cX6_enter 7 = .ok (.aload_n 0, 1) := by decide +kernel
theorem eX6_enter_8 : decode cX6_enter 8 = .ok (.getfield 44, 3) := by decide +kernel
theorem eX6_enter_11 : decode cX6_enter 11 = .ok (.sipush 151, 3) := by decide +kernel
theorem eX6_enter_14 : decode cX6_enter 14 = .ok (.if_icmp .ge 13, 3) := by decide +kernel
theorem eX6_enter_17 : decode cX6_enter 17 = .ok (.aload_n 0, 1) := by decide +kernel
theorem eX6_enter_18 : decode cX6_enter 18 = .ok (.getfield 9, 3) := by decide +kernel
theorem eX6_enter_21 : decode cX6_enter 21 = .ok (.sipush 4000, 3) := by decide +kernel
theorem eX6_enter_24 : decode cX6_enter 24 = .ok (.if_icmp .lt 10, 3) := by decide +kernel
theorem eX6_enter_27 : decode cX6_enter 27 = .ok (.aload_n 0, 1) := by decide +kernel
theorem eX6_enter_28 : decode cX6_enter 28 = .ok (.bipush (-4), 2) := by decide +kernel
theorem eX6_enter_30 : decode cX6_enter 30 = .ok (.putfield 47, 3) := by decide +kernel
theorem eX6_enter_33 : decode cX6_enter 33 = .ok (.return_, 1) := by decide +kernel
theorem eX6_enter_34 : decode cX6_enter 34 = .ok (.aload_n 0, 1) := by decide +kernel
theorem eX6_enter_35 : decode cX6_enter 35 = .ok (.dup, 1) := by decide +kernel
theorem eX6_enter_36 : decode cX6_enter 36 = .ok (.getfield 9, 3) := by decide +kernel
theorem eX6_enter_39 : decode cX6_enter 39 = .ok (.iconst 1, 1) := by decide +kernel
theorem eX6_enter_40 : decode cX6_enter 40 = .ok (.iadd, 1) := by decide +kernel
theorem eX6_enter_41 : decode cX6_enter 41 = .ok (.putfield 9, 3) := by decide +kernel
theorem eX6_enter_44 : decode cX6_enter 44 = .ok (.aload_n 0, 1) := by decide +kernel
theorem eX6_enter_45 : decode cX6_enter 45 = .ok (.getfield 25, 3) := by decide +kernel
theorem eX6_enter_48 : decode cX6_enter 48 = .ok (.aload_n 0, 1) := by decide +kernel
theorem eX6_enter_49 : decode cX6_enter 49 = .ok (.getfield 44, 3) := by decide +kernel
theorem eX6_enter_52 : decode cX6_enter 52 = .ok (.iload_n 1, 1) := by decide +kernel
theorem eX6_enter_53 : decode cX6_enter 53 = .ok (.iastore, 1) := by decide +kernel
theorem eX6_enter_54 : decode cX6_enter 54 = .ok (.aload_n 0, 1) := by decide +kernel
theorem eX6_enter_55 : decode cX6_enter 55 = .ok (.getfield 28, 3) := by decide +kernel
theorem eX6_enter_58 : decode cX6_enter 58 = .ok (.aload_n 0, 1) := by decide +kernel
theorem eX6_enter_59 : decode cX6_enter 59 = .ok (.getfield 44, 3) := by decide +kernel
theorem eX6_enter_62 : decode cX6_enter 62 = .ok (.iload_n 2, 1) := by decide +kernel
theorem eX6_enter_63 : decode cX6_enter 63 = .ok (.iastore, 1) := by decide +kernel
theorem eX6_enter_64 : decode cX6_enter 64 = .ok (.aload_n 0, 1) := by decide +kernel
theorem eX6_enter_65 : decode cX6_enter 65 = .ok (.getfield 31, 3) := by decide +kernel
theorem eX6_enter_68 : decode cX6_enter 68 = .ok (.aload_n 0, 1) := by decide +kernel
theorem eX6_enter_69 : decode cX6_enter 69 = .ok (.getfield 44, 3) := by decide +kernel
theorem eX6_enter_72 : decode cX6_enter 72 = .ok (.iconst 0, 1) := by decide +kernel
theorem eX6_enter_73 : decode cX6_enter 73 = .ok (.iastore, 1) := by decide +kernel
theorem eX6_enter_74 : decode cX6_enter 74 = .ok (.aload_n 0, 1) := by decide +kernel
theorem eX6_enter_75 : decode cX6_enter 75 = .ok (.getfield 34, 3) := by decide +kernel
theorem eX6_enter_78 : decode cX6_enter 78 = .ok (.aload_n 0, 1) := by decide +kernel
theorem eX6_enter_79 : decode cX6_enter 79 = .ok (.getfield 44, 3) := by decide +kernel
theorem eX6_enter_82 : decode cX6_enter 82 = .ok (.iconst (-1), 1) := by decide +kernel
theorem eX6_enter_83 : decode cX6_enter 83 = .ok (.iastore, 1) := by decide +kernel
theorem eX6_enter_84 : decode cX6_enter 84 = .ok (.aload_n 0, 1) := by decide +kernel
theorem eX6_enter_85 : decode cX6_enter 85 = .ok (.dup, 1) := by decide +kernel
theorem eX6_enter_86 : decode cX6_enter 86 = .ok (.getfield 44, 3) := by decide +kernel
theorem eX6_enter_89 : decode cX6_enter 89 = .ok (.iconst 1, 1) := by decide +kernel
theorem eX6_enter_90 : decode cX6_enter 90 = .ok (.iadd, 1) := by decide +kernel
theorem eX6_enter_91 : decode cX6_enter 91 = .ok (.putfield 44, 3) := by decide +kernel
theorem eX6_enter_94 : decode cX6_enter 94 = .ok (.return_, 1) := by decide +kernel
def C_X6_enter (s : ST) (p : Int) (q : Int) (Q : ST → Prop) : Prop := bx <| RA s → R32 p → R32 q → q_met mX6_enter (qs layX s) [.ref 80, .int (Int32.ofInt p), .int (Int32.ofInt q)] (PV layX Q)
theorem C_X6_enter.mono {s : ST} {p : Int} {q : Int} {Q Q' : ST → Prop} (h : C_X6_enter s p q Q) (hq : ∀ s, Q s → Q' s) : C_X6_enter s p q Q' := ⟨fun hA hrp hrq => q_met.mono (h.1 hA hrp hrq) (fun _ _ => PV.mono hq), trivial⟩
set_option maxRecDepth 20000 in
theorem s_X6_enter {s : ST} {p : Int} {q : Int} {Q : ST → Prop} (h : RA s → R32 p → R32 q → ((s.1 80 12 < 0 → Q (ui s 80 14 (-4))) ∧ (¬ s.1 80 12 < 0 → ((151 ≤ s.1 80 12 → Q (ui s 80 14 (-4))) ∧ (¬ 151 ≤ s.1 80 12 → ((s.1 80 2 < 4000 → (R32 (s.1 80 2 + 1) ∧ (((0 : Int) ≤ s.1 80 12 ∧ s.1 80 12 < 151) ∧ (R32 (s.1 80 12 + 1) ∧ Q (ui (ui (ui (ui (ui (ui s 80 2 (s.1 80 2 + 1)) 84 (s.1 80 12) p) 85 (s.1 80 12) q) 86 (s.1 80 12) 0) 87 (s.1 80 12) (-1)) 80 12 (s.1 80 12 + 1)))))) ∧ (¬ s.1 80 2 < 4000 → Q (ui s 80 14 (-4))))))))) : C_X6_enter s p q Q := by
  refine ⟨?_, trivial⟩
  intro hA hrp hrq
  have h := h hA hrp hrq
  refine q_enter (by decide) (Nat.le_of_ble_eq_true rfl) ?_
  refine q_aload_n eX6_enter_0 rfl ?_
  refine q_getf (c := 6) (n := 0) (k := 12) (v := .int (Int32.ofInt (s.1 80 12))) eX6_enter_1 rfl (by decide) (by decide) fX6_44 rfl ?_
  refine q_iz_lt (tgt := 27) (a := s.1 80 12) eX6_enter_4 (by decide) (ofz (hA _ _)) (fun c4 => ?_) (fun c4 => ?_)
  · have h := h.1 c4
    refine q_aload_n eX6_enter_27 rfl ?_
    refine q_bi (v := Int32.ofInt (-4)) eX6_enter_28 rfl ?_
    refine z_putI (c := 6) (n := 0) (k := 14) (kz := 14) eX6_enter_30 rfl (by decide) (by decide) fX6_47 rfl rfl rfl ?_
    exact q_ret eX6_enter_33 rfl ⟨_, rfl, (ra_ui hA (r32l rfl)), rfl, h⟩
  · have h := h.2 c4
    refine q_aload_n eX6_enter_7 rfl ?_
    refine q_getf (c := 6) (n := 0) (k := 12) (v := .int (Int32.ofInt (s.1 80 12))) eX6_enter_8 rfl (by decide) (by decide) fX6_44 rfl ?_
    refine q_si (v := Int32.ofInt 151) eX6_enter_11 rfl ?_
    refine q_cz_ge (tgt := 27) (a := s.1 80 12) (b := 151) eX6_enter_14 (by decide) (ofz (hA _ _)) (ofz (r32l rfl)) (fun c14 => ?_) (fun c14 => ?_)
    · have h := h.1 c14
      refine q_aload_n eX6_enter_27 rfl ?_
      refine q_bi (v := Int32.ofInt (-4)) eX6_enter_28 rfl ?_
      refine z_putI (c := 6) (n := 0) (k := 14) (kz := 14) eX6_enter_30 rfl (by decide) (by decide) fX6_47 rfl rfl rfl ?_
      exact q_ret eX6_enter_33 rfl ⟨_, rfl, (ra_ui hA (r32l rfl)), rfl, h⟩
    · have h := h.2 c14
      refine q_aload_n eX6_enter_17 rfl ?_
      refine q_getf (c := 6) (n := 0) (k := 2) (v := .int (Int32.ofInt (s.1 80 2))) eX6_enter_18 rfl (by decide) (by decide) fX6_9 rfl ?_
      refine q_si (v := Int32.ofInt 4000) eX6_enter_21 rfl ?_
      refine q_cz_lt (tgt := 34) (a := s.1 80 2) (b := 4000) eX6_enter_24 (by decide) (ofz (hA _ _)) (ofz (r32l rfl)) (fun c24 => ?_) (fun c24 => ?_)
      · have h := h.1 c24
        refine q_aload_n eX6_enter_34 rfl ?_
        refine q_dup eX6_enter_35 rfl ?_
        refine q_getf (c := 6) (n := 0) (k := 2) (v := .int (Int32.ofInt (s.1 80 2))) eX6_enter_36 rfl (by decide) (by decide) fX6_9 rfl ?_
        refine q_ic (v := Int32.ofInt 1) eX6_enter_39 rfl ?_
        refine z_iadd eX6_enter_40 ?_
        have r1 := h.1
        have h := h.2
        refine z_putI (c := 6) (n := 0) (k := 2) (kz := 2) eX6_enter_41 rfl (by decide) (by decide) fX6_9 rfl rfl rfl ?_
        refine q_aload_n eX6_enter_44 rfl ?_
        refine q_getR (c := 6) (n := 0) (k := 8) (a := 84) eX6_enter_45 rfl (by decide) (by decide) fX6_25 rfl rfl ?_
        refine q_aload_n eX6_enter_48 rfl ?_
        refine q_getf (c := 6) (n := 0) (k := 12) (v := .int (Int32.ofInt (s.1 80 12))) eX6_enter_49 rfl (by decide) (by decide) fX6_44 rfl ?_
        refine q_iload_n eX6_enter_52 rfl ?_
        have f2 := h.1
        have h := h.2
        refine z_iast (n := 151) eX6_enter_53 rfl (ofz (hA _ _)) f2  ?_
        refine q_aload_n eX6_enter_54 rfl ?_
        refine q_getR (c := 6) (n := 0) (k := 9) (a := 85) eX6_enter_55 rfl (by decide) (by decide) fX6_28 rfl rfl ?_
        refine q_aload_n eX6_enter_58 rfl ?_
        refine q_getf (c := 6) (n := 0) (k := 12) (v := .int (Int32.ofInt (s.1 80 12))) eX6_enter_59 rfl (by decide) (by decide) fX6_44 rfl ?_
        refine q_iload_n eX6_enter_62 rfl ?_
        refine z_iast (n := 151) eX6_enter_63 rfl (ofz (hA _ _)) f2  ?_
        refine q_aload_n eX6_enter_64 rfl ?_
        refine q_getR (c := 6) (n := 0) (k := 10) (a := 86) eX6_enter_65 rfl (by decide) (by decide) fX6_31 rfl rfl ?_
        refine q_aload_n eX6_enter_68 rfl ?_
        refine q_getf (c := 6) (n := 0) (k := 12) (v := .int (Int32.ofInt (s.1 80 12))) eX6_enter_69 rfl (by decide) (by decide) fX6_44 rfl ?_
        refine q_ic (v := Int32.ofInt 0) eX6_enter_72 rfl ?_
        refine z_iast (n := 151) eX6_enter_73 rfl (ofz (hA _ _)) f2  ?_
        refine q_aload_n eX6_enter_74 rfl ?_
        refine q_getR (c := 6) (n := 0) (k := 11) (a := 87) eX6_enter_75 rfl (by decide) (by decide) fX6_34 rfl rfl ?_
        refine q_aload_n eX6_enter_78 rfl ?_
        refine q_getf (c := 6) (n := 0) (k := 12) (v := .int (Int32.ofInt (s.1 80 12))) eX6_enter_79 rfl (by decide) (by decide) fX6_44 rfl ?_
        refine q_ic (v := Int32.ofInt (-1)) eX6_enter_82 rfl ?_
        refine z_iast (n := 151) eX6_enter_83 rfl (ofz (hA _ _)) f2  ?_
        refine q_aload_n eX6_enter_84 rfl ?_
        refine q_dup eX6_enter_85 rfl ?_
        refine q_getf (c := 6) (n := 0) (k := 12) (v := .int (Int32.ofInt (s.1 80 12))) eX6_enter_86 rfl (by decide) (by decide) fX6_44 rfl ?_
        refine q_ic (v := Int32.ofInt 1) eX6_enter_89 rfl ?_
        refine z_iadd eX6_enter_90 ?_
        have r3 := h.1
        have h := h.2
        refine z_putI (c := 6) (n := 0) (k := 12) (kz := 12) eX6_enter_91 rfl (by decide) (by decide) fX6_44 rfl rfl rfl ?_
        exact q_ret eX6_enter_94 rfl ⟨_, rfl, (ra_ui (ra_ui (ra_ui (ra_ui (ra_ui (ra_ui hA r1) hrp) hrq) (r32l rfl)) (r32l rfl)) r3), rfl, h⟩
      · have h := h.2 c24
        refine q_aload_n eX6_enter_27 rfl ?_
        refine q_bi (v := Int32.ofInt (-4)) eX6_enter_28 rfl ?_
        refine z_putI (c := 6) (n := 0) (k := 14) (kz := 14) eX6_enter_30 rfl (by decide) (by decide) fX6_47 rfl rfl rfl ?_
        exact q_ret eX6_enter_33 rfl ⟨_, rfl, (ra_ui hA (r32l rfl)), rfl, h⟩
theorem eX9_parentOf_0 : decode cX9_parentOf 0 = .ok (.aload_n 0, 1) := by decide +kernel
theorem eX9_parentOf_1 : decode cX9_parentOf 1 = .ok (.iload_n 1, 1) := by decide +kernel
theorem eX9_parentOf_2 : decode cX9_parentOf 2 = .ok (.invokevirtual 71, 3) := by decide +kernel
theorem eX9_parentOf_5 : decode cX9_parentOf 5 = .ok (.ifCond .eq 12, 3) := by decide +kernel
theorem eX9_parentOf_8 : decode cX9_parentOf 8 = .ok (.aload_n 0, 1) := by decide +kernel
theorem eX9_parentOf_9 : decode cX9_parentOf 9 = .ok (.getfield 34, 3) := by decide +kernel
theorem eX9_parentOf_12 : decode cX9_parentOf 12 = .ok (.iload_n 1, 1) := by decide +kernel
theorem eX9_parentOf_13 : decode cX9_parentOf 13 = .ok (.iaload, 1) := by decide +kernel
theorem eX9_parentOf_14 : decode cX9_parentOf 14 = .ok (.goto 4, 3) := by decide +kernel
theorem eX9_parentOf_17 : decode cX9_parentOf 17 = .ok (.iconst (-1), 1) := by decide +kernel
theorem eX9_parentOf_18 : decode cX9_parentOf 18 = .ok (.ireturn, 1) := by decide +kernel
def C_X9_parentOf (t : Nat) (s : ST) (p : Int) (Q : ST → Int → Prop) : Prop := bx <| isT t → RA s → R32 p → q_met mX9_parentOf (qs layX s) [.ref t, .int (Int32.ofInt p)] (PI layX Q)
theorem C_X9_parentOf.mono {t : Nat} {s : ST} {p : Int} {Q Q' : ST → Int → Prop} (h : C_X9_parentOf t s p Q) (hq : ∀ s v, Q s v → Q' s v) : C_X9_parentOf t s p Q' := ⟨fun ht hA hrp => q_met.mono (h.1 ht hA hrp) (fun _ _ => PI.mono hq), trivial⟩
set_option maxRecDepth 20000 in
theorem s_X9_parentOf {t : Nat} {s : ST} {p : Int} {Q : ST → Int → Prop} (h : isT t → RA s → R32 p → ((¬ (¬ p < 0 ∧ (¬ s.1 t 1 ≤ p ∧ ¬ 40 ≤ p)) → Q s (-1)) ∧ ((¬ p < 0 ∧ (¬ s.1 t 1 ≤ p ∧ ¬ 40 ≤ p)) → (((0 : Int) ≤ p ∧ p < 40) ∧ Q s (s.1 (t + 8) p))))) : C_X9_parentOf t s p Q := by
  refine ⟨?_, trivial⟩
  intro ht hA hrp
  have h := h ht hA hrp
  refine q_enter (by decide) (Nat.le_of_ble_eq_true rfl) ?_
  refine q_aload_n eX9_parentOf_0 rfl ?_
  refine q_iload_n eX9_parentOf_1 rfl ?_
  refine q_V1 (ci := 9) (n := 0) eX9_parentOf_2 DX9_has lX9_71 (tl_0 ht) (by decide) rfl rfl rfl rfl (p_X9_has ht hA hrp) ?_
  rintro _ _ ⟨b1, rfl, rfl⟩
  refine q_iz_eq (tgt := 17) (a := (F_X9_has t s p)) eX9_parentOf_5 (by decide) (ofz (r01 b1)) (fun c5 => ?_) (fun c5 => ?_)
  · have h := h.1 (fun q => n_X9_has.mpr q c5)
    refine q_ic (v := Int32.ofInt (-1)) eX9_parentOf_17 rfl ?_
    exact q_iret eX9_parentOf_18 rfl ⟨_, _, rfl, hA, (r32l rfl), rfl, h⟩
  · have h := h.2 (n_X9_has.mp c5)
    refine q_aload_n eX9_parentOf_8 rfl ?_
    refine q_getR (c := 9) (n := 0) (k := 10) (a := (t + 8)) eX9_parentOf_9 (tl_0 ht) (by decide) (by decide) fX9_34 rfl (tr_10 ht) ?_
    refine q_iload_n eX9_parentOf_12 rfl ?_
    have f2 := h.1
    have h := h.2
    refine z_iald (n := 40) eX9_parentOf_13 (tl_8 ht) (ofz hrp) f2 ?_
    refine q_topI (v := Int32.ofInt (s.1 (t + 8) p)) rfl ?_
    refine q_goto (tgt := 18) eX9_parentOf_14 (by decide) ?_
    exact q_iret eX9_parentOf_18 rfl ⟨_, _, rfl, hA, (hA _ _), rfl, h⟩
def F_X9_parentOf (t : Nat) (s : ST) (p : Int) : Int := (if (¬ p < 0 ∧ (¬ s.1 t 1 ≤ p ∧ ¬ 40 ≤ p)) then s.1 (t + 8) p else (-1))
abbrev P_X9_parentOf (t : Nat) (s : ST) (p : Int) : Prop := ((¬ p < 0 ∧ (¬ s.1 t 1 ≤ p ∧ ¬ 40 ≤ p)) → ((0 : Int) ≤ p ∧ p < 40))
theorem w_X9_parentOf {t : Nat} {s : ST} {p : Int} (h : P_X9_parentOf t s p) : C_X9_parentOf t s p (fun s' v => s' = s ∧ v = F_X9_parentOf t s p) := by
  refine s_X9_parentOf (fun ht hA hrp => ?_)
  unfold P_X9_parentOf at h
  refine ⟨fun e0 => ?_, fun e0 => ?_⟩
  · exact ⟨rfl, by unfold F_X9_parentOf; rw [if_neg e0]⟩
  · have h := h e0
    refine ⟨h, ?_⟩
    exact ⟨rfl, by unfold F_X9_parentOf; rw [if_pos e0]⟩
theorem p_X9_parentOf {t : Nat} {s : ST} {p : Int} (h : P_X9_parentOf t s p) : isT t → RA s → R32 p → q_met mX9_parentOf (qs layX s) [.ref t, .int (Int32.ofInt p)] (fun σ r => R32 (F_X9_parentOf t s p) ∧ σ = qs layX s ∧ r = some (.int (Int32.ofInt (F_X9_parentOf t s p)))) := fun ht hA hrp => q_met.mono ((w_X9_parentOf h).1 ht hA hrp) (by
  rintro _ _ ⟨s1, v1, rfl, h1, h2, rfl, rfl, rfl⟩
  exact ⟨h2, rfl, rfl⟩)
theorem eX6_isCell_0 : decode cX6_isCell 0 = .ok (.iload_n 1, 1) := by decide +kernel
theorem eX6_isCell_1 : decode cX6_isCell 1 = .ok (.ifCond .lt 22, 3) := by decide +kernel
theorem eX6_isCell_4 : decode cX6_isCell 4 = .ok (.iload_n 1, 1) := by decide +kernel
theorem eX6_isCell_5 : decode cX6_isCell 5 = .ok (.aload_n 0, 1) := by decide +kernel
theorem eX6_isCell_6 : decode cX6_isCell 6 = .ok (.getfield 41, 3) := by decide +kernel
theorem eX6_isCell_9 : decode cX6_isCell 9 = .ok (.if_icmp .ge 14, 3) := by decide +kernel
theorem eX6_isCell_12 : decode cX6_isCell 12 = .ok (.iload_n 1, 1) := by decide +kernel
theorem eX6_isCell_13 : decode cX6_isCell 13 = .ok (.sipush 4000, 3) := by decide +kernel
theorem eX6_isCell_16 : decode cX6_isCell 16 = .ok (.if_icmp .ge 7, 3) := by decide +kernel
theorem eX6_isCell_19 : decode cX6_isCell 19 = .ok (.iconst 1, 1) := by decide +kernel
theorem eX6_isCell_20 : decode cX6_isCell 20 = .ok (.goto 4, 3) := by decide +kernel
theorem eX6_isCell_23 : decode cX6_isCell 23 = .ok (.iconst 0, 1) := by decide +kernel
theorem eX6_isCell_24 : decode cX6_isCell 24 = .ok (.ireturn, 1) := by decide +kernel
def C_X6_isCell (s : ST) (p : Int) (Q : ST → Int → Prop) : Prop := bx <| RA s → R32 p → q_met mX6_isCell (qs layX s) [.ref 80, .int (Int32.ofInt p)] (PB layX Q)
theorem C_X6_isCell.mono {s : ST} {p : Int} {Q Q' : ST → Int → Prop} (h : C_X6_isCell s p Q) (hq : ∀ s v, Q s v → Q' s v) : C_X6_isCell s p Q' := ⟨fun hA hrp => q_met.mono (h.1 hA hrp) (fun _ _ => PB.mono hq), trivial⟩
set_option maxRecDepth 20000 in
theorem s_X6_isCell {s : ST} {p : Int} {Q : ST → Int → Prop} (h : RA s → R32 p → ((p < 0 → Q s 0) ∧ (¬ p < 0 → ((s.1 80 7 ≤ p → Q s 0) ∧ (¬ s.1 80 7 ≤ p → ((4000 ≤ p → Q s 0) ∧ (¬ 4000 ≤ p → Q s 1))))))) : C_X6_isCell s p Q := by
  refine ⟨?_, trivial⟩
  intro hA hrp
  have h := h hA hrp
  refine q_enter (by decide) (Nat.le_of_ble_eq_true rfl) ?_
  refine q_iload_n eX6_isCell_0 rfl ?_
  refine q_iz_lt (tgt := 23) (a := p) eX6_isCell_1 (by decide) (ofz hrp) (fun c1 => ?_) (fun c1 => ?_)
  · have h := h.1 c1
    refine q_ic (v := Int32.ofInt 0) eX6_isCell_23 rfl ?_
    exact q_zret eX6_isCell_24 rfl (z01 (Or.inl rfl)) ⟨_, _, rfl, hA, (Or.inl rfl), rfl, h⟩
  · have h := h.2 c1
    refine q_iload_n eX6_isCell_4 rfl ?_
    refine q_aload_n eX6_isCell_5 rfl ?_
    refine q_getf (c := 6) (n := 0) (k := 7) (v := .int (Int32.ofInt (s.1 80 7))) eX6_isCell_6 rfl (by decide) (by decide) fX6_41 rfl ?_
    refine q_cz_ge (tgt := 23) (a := p) (b := s.1 80 7) eX6_isCell_9 (by decide) (ofz hrp) (ofz (hA _ _)) (fun c9 => ?_) (fun c9 => ?_)
    · have h := h.1 c9
      refine q_ic (v := Int32.ofInt 0) eX6_isCell_23 rfl ?_
      exact q_zret eX6_isCell_24 rfl (z01 (Or.inl rfl)) ⟨_, _, rfl, hA, (Or.inl rfl), rfl, h⟩
    · have h := h.2 c9
      refine q_iload_n eX6_isCell_12 rfl ?_
      refine q_si (v := Int32.ofInt 4000) eX6_isCell_13 rfl ?_
      refine q_cz_ge (tgt := 23) (a := p) (b := 4000) eX6_isCell_16 (by decide) (ofz hrp) (ofz (r32l rfl)) (fun c16 => ?_) (fun c16 => ?_)
      · have h := h.1 c16
        refine q_ic (v := Int32.ofInt 0) eX6_isCell_23 rfl ?_
        exact q_zret eX6_isCell_24 rfl (z01 (Or.inl rfl)) ⟨_, _, rfl, hA, (Or.inl rfl), rfl, h⟩
      · have h := h.2 c16
        refine q_ic (v := Int32.ofInt 1) eX6_isCell_19 rfl ?_
        refine q_goto (tgt := 24) eX6_isCell_20 (by decide) ?_
        exact q_zret eX6_isCell_24 rfl (z01 (Or.inr rfl)) ⟨_, _, rfl, hA, (Or.inr rfl), rfl, h⟩
def F_X6_isCell (s : ST) (p : Int) : Int := (if p < 0 then 0 else (if s.1 80 7 ≤ p then 0 else (if 4000 ≤ p then 0 else 1)))
theorem w_X6_isCell {s : ST} {p : Int} : C_X6_isCell s p (fun s' v => s' = s ∧ v = F_X6_isCell s p) := by
  refine s_X6_isCell (fun hA hrp => ?_)
  refine ⟨fun e0 => ?_, fun e0 => ?_⟩
  · exact ⟨rfl, by unfold F_X6_isCell; rw [if_pos e0]⟩
  · refine ⟨fun e1 => ?_, fun e1 => ?_⟩
    · exact ⟨rfl, by unfold F_X6_isCell; rw [if_neg e0, if_pos e1]⟩
    · refine ⟨fun e2 => ?_, fun e2 => ?_⟩
      · exact ⟨rfl, by unfold F_X6_isCell; rw [if_neg e0, if_neg e1, if_pos e2]⟩
      · exact ⟨rfl, by unfold F_X6_isCell; rw [if_neg e0, if_neg e1, if_neg e2]⟩
theorem p_X6_isCell {s : ST} {p : Int} : RA s → R32 p → q_met mX6_isCell (qs layX s) [.ref 80, .int (Int32.ofInt p)] (fun σ r => (F_X6_isCell s p = 0 ∨ F_X6_isCell s p = 1) ∧ σ = qs layX s ∧ r = some (.int (Int32.ofInt (F_X6_isCell s p)))) := fun hA hrp => q_met.mono ((w_X6_isCell).1 hA hrp) (by
  rintro _ _ ⟨s1, v1, rfl, h1, h2, rfl, rfl, rfl⟩
  exact ⟨h2, rfl, rfl⟩)
theorem n_X6_isCell {s : ST} {p : Int} : ¬ F_X6_isCell s p = 0 ↔ (¬ p < 0 ∧ (¬ s.1 80 7 ≤ p ∧ ¬ 4000 ≤ p)) := by
  unfold F_X6_isCell
  first | omega | ((repeat' split) <;> simp_all) | ((repeat' split) <;> (simp_all <;> omega))
theorem eX6_twoOf_0 : decode cX6_twoOf 0 = .ok (.aload_n 0, 1) := by decide +kernel
theorem eX6_twoOf_1 : decode cX6_twoOf 1 = .ok (.iload_n 1, 1) := by decide +kernel
theorem eX6_twoOf_2 : decode cX6_twoOf 2 = .ok (.invokevirtual 83, 3) := by decide +kernel
theorem eX6_twoOf_5 : decode cX6_twoOf 5 = .ok (.ifCond .eq 12, 3) := by decide +kernel
theorem eX6_twoOf_8 : decode cX6_twoOf 8 = .ok (.aload_n 0, 1) := by decide +kernel
theorem eX6_twoOf_9 : decode cX6_twoOf 9 = .ok (.getfield 22, 3) := by decide +kernel
theorem eX6_twoOf_12 : decode cX6_twoOf 12 = .ok (.iload_n 1, 1) := by decide +kernel
theorem eX6_twoOf_13 : decode cX6_twoOf 13 = .ok (.iaload, 1) := by decide +kernel
theorem eX6_twoOf_14 : decode cX6_twoOf 14 = .ok (.goto 4, 3) := by decide +kernel
theorem eX6_twoOf_17 : decode cX6_twoOf 17 = .ok (.iconst (-1), 1) := by decide +kernel
theorem eX6_twoOf_18 : decode cX6_twoOf 18 = .ok (.ireturn, 1) := by decide +kernel
def C_X6_twoOf (s : ST) (p : Int) (Q : ST → Int → Prop) : Prop := bx <| RA s → R32 p → q_met mX6_twoOf (qs layX s) [.ref 80, .int (Int32.ofInt p)] (PI layX Q)
theorem C_X6_twoOf.mono {s : ST} {p : Int} {Q Q' : ST → Int → Prop} (h : C_X6_twoOf s p Q) (hq : ∀ s v, Q s v → Q' s v) : C_X6_twoOf s p Q' := ⟨fun hA hrp => q_met.mono (h.1 hA hrp) (fun _ _ => PI.mono hq), trivial⟩
set_option maxRecDepth 20000 in
theorem s_X6_twoOf {s : ST} {p : Int} {Q : ST → Int → Prop} (h : RA s → R32 p → ((¬ (¬ p < 0 ∧ (¬ s.1 80 7 ≤ p ∧ ¬ 4000 ≤ p)) → Q s (-1)) ∧ ((¬ p < 0 ∧ (¬ s.1 80 7 ≤ p ∧ ¬ 4000 ≤ p)) → (((0 : Int) ≤ p ∧ p < 4000) ∧ Q s (s.1 83 p))))) : C_X6_twoOf s p Q := by
  refine ⟨?_, trivial⟩
  intro hA hrp
  have h := h hA hrp
  refine q_enter (by decide) (Nat.le_of_ble_eq_true rfl) ?_
  refine q_aload_n eX6_twoOf_0 rfl ?_
  refine q_iload_n eX6_twoOf_1 rfl ?_
  refine q_V1 (ci := 6) (n := 0) eX6_twoOf_2 DX6_isCell lX6_83 rfl (by decide) rfl rfl rfl rfl (p_X6_isCell hA hrp) ?_
  rintro _ _ ⟨b1, rfl, rfl⟩
  refine q_iz_eq (tgt := 17) (a := (F_X6_isCell s p)) eX6_twoOf_5 (by decide) (ofz (r01 b1)) (fun c5 => ?_) (fun c5 => ?_)
  · have h := h.1 (fun q => n_X6_isCell.mpr q c5)
    refine q_ic (v := Int32.ofInt (-1)) eX6_twoOf_17 rfl ?_
    exact q_iret eX6_twoOf_18 rfl ⟨_, _, rfl, hA, (r32l rfl), rfl, h⟩
  · have h := h.2 (n_X6_isCell.mp c5)
    refine q_aload_n eX6_twoOf_8 rfl ?_
    refine q_getR (c := 6) (n := 0) (k := 6) (a := 83) eX6_twoOf_9 rfl (by decide) (by decide) fX6_22 rfl rfl ?_
    refine q_iload_n eX6_twoOf_12 rfl ?_
    have f2 := h.1
    have h := h.2
    refine z_iald (n := 4000) eX6_twoOf_13 rfl (ofz hrp) f2 ?_
    refine q_topI (v := Int32.ofInt (s.1 83 p)) rfl ?_
    refine q_goto (tgt := 18) eX6_twoOf_14 (by decide) ?_
    exact q_iret eX6_twoOf_18 rfl ⟨_, _, rfl, hA, (hA _ _), rfl, h⟩
def F_X6_twoOf (s : ST) (p : Int) : Int := (if (¬ p < 0 ∧ (¬ s.1 80 7 ≤ p ∧ ¬ 4000 ≤ p)) then s.1 83 p else (-1))
abbrev P_X6_twoOf (s : ST) (p : Int) : Prop := ((¬ p < 0 ∧ (¬ s.1 80 7 ≤ p ∧ ¬ 4000 ≤ p)) → ((0 : Int) ≤ p ∧ p < 4000))
theorem w_X6_twoOf {s : ST} {p : Int} (h : P_X6_twoOf s p) : C_X6_twoOf s p (fun s' v => s' = s ∧ v = F_X6_twoOf s p) := by
  refine s_X6_twoOf (fun hA hrp => ?_)
  unfold P_X6_twoOf at h
  refine ⟨fun e0 => ?_, fun e0 => ?_⟩
  · exact ⟨rfl, by unfold F_X6_twoOf; rw [if_neg e0]⟩
  · have h := h e0
    refine ⟨h, ?_⟩
    exact ⟨rfl, by unfold F_X6_twoOf; rw [if_pos e0]⟩
theorem p_X6_twoOf {s : ST} {p : Int} (h : P_X6_twoOf s p) : RA s → R32 p → q_met mX6_twoOf (qs layX s) [.ref 80, .int (Int32.ofInt p)] (fun σ r => R32 (F_X6_twoOf s p) ∧ σ = qs layX s ∧ r = some (.int (Int32.ofInt (F_X6_twoOf s p)))) := fun hA hrp => q_met.mono ((w_X6_twoOf h).1 hA hrp) (by
  rintro _ _ ⟨s1, v1, rfl, h1, h2, rfl, rfl, rfl⟩
  exact ⟨h2, rfl, rfl⟩)
theorem eX6_oneOf_0 : decode cX6_oneOf 0 = .ok (.aload_n 0, 1) := by decide +kernel
theorem eX6_oneOf_1 : decode cX6_oneOf 1 = .ok (.iload_n 1, 1) := by decide +kernel
theorem eX6_oneOf_2 : decode cX6_oneOf 2 = .ok (.invokevirtual 83, 3) := by decide +kernel
theorem eX6_oneOf_5 : decode cX6_oneOf 5 = .ok (.ifCond .eq 12, 3) := by decide +kernel
theorem eX6_oneOf_8 : decode cX6_oneOf 8 = .ok (.aload_n 0, 1) := by decide +kernel
theorem eX6_oneOf_9 : decode cX6_oneOf 9 = .ok (.getfield 19, 3) := by decide +kernel
theorem eX6_oneOf_12 : decode cX6_oneOf 12 = .ok (.iload_n 1, 1) := by decide +kernel
theorem eX6_oneOf_13 : decode cX6_oneOf 13 = .ok (.iaload, 1) := by decide +kernel
theorem eX6_oneOf_14 : decode cX6_oneOf 14 = .ok (.goto 4, 3) := by decide +kernel
theorem eX6_oneOf_17 : decode cX6_oneOf 17 = .ok (.iconst (-1), 1) := by decide +kernel
theorem eX6_oneOf_18 : decode cX6_oneOf 18 = .ok (.ireturn, 1) := by decide +kernel
def C_X6_oneOf (s : ST) (p : Int) (Q : ST → Int → Prop) : Prop := bx <| RA s → R32 p → q_met mX6_oneOf (qs layX s) [.ref 80, .int (Int32.ofInt p)] (PI layX Q)
theorem C_X6_oneOf.mono {s : ST} {p : Int} {Q Q' : ST → Int → Prop} (h : C_X6_oneOf s p Q) (hq : ∀ s v, Q s v → Q' s v) : C_X6_oneOf s p Q' := ⟨fun hA hrp => q_met.mono (h.1 hA hrp) (fun _ _ => PI.mono hq), trivial⟩
set_option maxRecDepth 20000 in
theorem s_X6_oneOf {s : ST} {p : Int} {Q : ST → Int → Prop} (h : RA s → R32 p → ((¬ (¬ p < 0 ∧ (¬ s.1 80 7 ≤ p ∧ ¬ 4000 ≤ p)) → Q s (-1)) ∧ ((¬ p < 0 ∧ (¬ s.1 80 7 ≤ p ∧ ¬ 4000 ≤ p)) → (((0 : Int) ≤ p ∧ p < 4000) ∧ Q s (s.1 82 p))))) : C_X6_oneOf s p Q := by
  refine ⟨?_, trivial⟩
  intro hA hrp
  have h := h hA hrp
  refine q_enter (by decide) (Nat.le_of_ble_eq_true rfl) ?_
  refine q_aload_n eX6_oneOf_0 rfl ?_
  refine q_iload_n eX6_oneOf_1 rfl ?_
  refine q_V1 (ci := 6) (n := 0) eX6_oneOf_2 DX6_isCell lX6_83 rfl (by decide) rfl rfl rfl rfl (p_X6_isCell hA hrp) ?_
  rintro _ _ ⟨b1, rfl, rfl⟩
  refine q_iz_eq (tgt := 17) (a := (F_X6_isCell s p)) eX6_oneOf_5 (by decide) (ofz (r01 b1)) (fun c5 => ?_) (fun c5 => ?_)
  · have h := h.1 (fun q => n_X6_isCell.mpr q c5)
    refine q_ic (v := Int32.ofInt (-1)) eX6_oneOf_17 rfl ?_
    exact q_iret eX6_oneOf_18 rfl ⟨_, _, rfl, hA, (r32l rfl), rfl, h⟩
  · have h := h.2 (n_X6_isCell.mp c5)
    refine q_aload_n eX6_oneOf_8 rfl ?_
    refine q_getR (c := 6) (n := 0) (k := 5) (a := 82) eX6_oneOf_9 rfl (by decide) (by decide) fX6_19 rfl rfl ?_
    refine q_iload_n eX6_oneOf_12 rfl ?_
    have f2 := h.1
    have h := h.2
    refine z_iald (n := 4000) eX6_oneOf_13 rfl (ofz hrp) f2 ?_
    refine q_topI (v := Int32.ofInt (s.1 82 p)) rfl ?_
    refine q_goto (tgt := 18) eX6_oneOf_14 (by decide) ?_
    exact q_iret eX6_oneOf_18 rfl ⟨_, _, rfl, hA, (hA _ _), rfl, h⟩
def F_X6_oneOf (s : ST) (p : Int) : Int := (if (¬ p < 0 ∧ (¬ s.1 80 7 ≤ p ∧ ¬ 4000 ≤ p)) then s.1 82 p else (-1))
abbrev P_X6_oneOf (s : ST) (p : Int) : Prop := ((¬ p < 0 ∧ (¬ s.1 80 7 ≤ p ∧ ¬ 4000 ≤ p)) → ((0 : Int) ≤ p ∧ p < 4000))
theorem w_X6_oneOf {s : ST} {p : Int} (h : P_X6_oneOf s p) : C_X6_oneOf s p (fun s' v => s' = s ∧ v = F_X6_oneOf s p) := by
  refine s_X6_oneOf (fun hA hrp => ?_)
  unfold P_X6_oneOf at h
  refine ⟨fun e0 => ?_, fun e0 => ?_⟩
  · exact ⟨rfl, by unfold F_X6_oneOf; rw [if_neg e0]⟩
  · have h := h e0
    refine ⟨h, ?_⟩
    exact ⟨rfl, by unfold F_X6_oneOf; rw [if_pos e0]⟩
theorem p_X6_oneOf {s : ST} {p : Int} (h : P_X6_oneOf s p) : RA s → R32 p → q_met mX6_oneOf (qs layX s) [.ref 80, .int (Int32.ofInt p)] (fun σ r => R32 (F_X6_oneOf s p) ∧ σ = qs layX s ∧ r = some (.int (Int32.ofInt (F_X6_oneOf s p)))) := fun hA hrp => q_met.mono ((w_X6_oneOf h).1 hA hrp) (by
  rintro _ _ ⟨s1, v1, rfl, h1, h2, rfl, rfl, rfl⟩
  exact ⟨h2, rfl, rfl⟩)
theorem eX6_leave_0 : decode cX6_leave 0 = .ok (.aload_n 0, 1) := by decide +kernel
theorem eX6_leave_1 : decode cX6_leave 1 = .ok (.iload_n 1, 1) := by decide +kernel
theorem eX6_leave_2 : decode cX6_leave 2 = .ok (.putfield 50, 3) := by decide +kernel
theorem eX6_leave_5 : decode cX6_leave 5 = .ok (.aload_n 0, 1) := by decide +kernel
theorem eX6_leave_6 : decode cX6_leave 6 = .ok (.dup, 1) := by decide +kernel
theorem eX6_leave_7 : decode cX6_leave 7 = .ok (.getfield 44, 3) := by decide +kernel
theorem eX6_leave_10 : decode cX6_leave 10 = .ok (.iconst 1, 1) := by decide +kernel
theorem eX6_leave_11 : decode cX6_leave 11 = .ok (.isub, 1) := by decide +kernel
theorem eX6_leave_12 : decode cX6_leave 12 = .ok (.putfield 44, 3) := by decide +kernel
theorem eX6_leave_15 : decode cX6_leave 15 = .ok (.return_, 1) := by decide +kernel
def C_X6_leave (s : ST) (p : Int) (Q : ST → Prop) : Prop := bx <| RA s → R32 p → q_met mX6_leave (qs layX s) [.ref 80, .int (Int32.ofInt p)] (PV layX Q)
theorem C_X6_leave.mono {s : ST} {p : Int} {Q Q' : ST → Prop} (h : C_X6_leave s p Q) (hq : ∀ s, Q s → Q' s) : C_X6_leave s p Q' := ⟨fun hA hrp => q_met.mono (h.1 hA hrp) (fun _ _ => PV.mono hq), trivial⟩
set_option maxRecDepth 20000 in
theorem s_X6_leave {s : ST} {p : Int} {Q : ST → Prop} (h : RA s → R32 p → Q (ui (ui s 80 13 p) 80 12 (w32 (s.1 80 12 - 1)))) : C_X6_leave s p Q := by
  refine ⟨?_, trivial⟩
  intro hA hrp
  have h := h hA hrp
  refine q_enter (by decide) (Nat.le_of_ble_eq_true rfl) ?_
  refine q_aload_n eX6_leave_0 rfl ?_
  refine q_iload_n eX6_leave_1 rfl ?_
  refine z_putI (c := 6) (n := 0) (k := 13) (kz := 13) eX6_leave_2 rfl (by decide) (by decide) fX6_50 rfl rfl rfl ?_
  refine q_aload_n eX6_leave_5 rfl ?_
  refine q_dup eX6_leave_6 rfl ?_
  refine q_getf (c := 6) (n := 0) (k := 12) (v := .int (Int32.ofInt (s.1 80 12))) eX6_leave_7 rfl (by decide) (by decide) fX6_44 rfl ?_
  refine q_ic (v := Int32.ofInt 1) eX6_leave_10 rfl ?_
  refine z_isub eX6_leave_11 ?_
  refine q_topI (v := Int32.ofInt (w32 (s.1 80 12 - 1))) (w32_of _).symm ?_
  refine z_putI (c := 6) (n := 0) (k := 12) (kz := 12) eX6_leave_12 rfl (by decide) (by decide) fX6_44 rfl rfl rfl ?_
  exact q_ret eX6_leave_15 rfl ⟨_, rfl, (ra_ui (ra_ui hA hrp) (w32_r _)), rfl, h⟩
theorem eX6_enterOrLeave_0 : decode cX6_enterOrLeave 0 = .ok (.iload_n 3, 1) := by decide +kernel
theorem eX6_enterOrLeave_1 : decode cX6_enterOrLeave 1 = .ok (.ifCond .ne 12, 3) := by decide +kernel
theorem eX6_enterOrLeave_4 : decode cX6_enterOrLeave 4 = .ok (.aload_n 0, 1) := by decide +kernel
theorem eX6_enterOrLeave_5 : decode cX6_enterOrLeave 5 = .ok (.iload_n 1, 1) := by decide +kernel
theorem eX6_enterOrLeave_6 : decode cX6_enterOrLeave 6 = .ok (.iload_n 2, 1) := by decide +kernel
theorem eX6_enterOrLeave_7 : decode cX6_enterOrLeave 7 = .ok (.invokevirtual 62, 3) := by decide +kernel
theorem eX6_enterOrLeave_10 : decode cX6_enterOrLeave 10 = .ok (.goto 11, 3) := by decide +kernel
theorem eX6_enterOrLeave_13 : decode cX6_enterOrLeave 13 = .ok (.aload_n 0, 1) := by decide +kernel
theorem eX6_enterOrLeave_14 : decode cX6_enterOrLeave 14 = .ok (.aload_n 0, 1) := by decide +kernel
theorem eX6_enterOrLeave_15 : decode cX6_enterOrLeave 15 = .ok (.getfield 50, 3) := by decide +kernel
theorem eX6_enterOrLeave_18 : decode cX6_enterOrLeave 18 = .ok (.invokevirtual 112, 3) := by decide +kernel
theorem eX6_enterOrLeave_21 : decode cX6_enterOrLeave 21 = .ok (.return_, 1) := by decide +kernel
def C_X6_enterOrLeave (s : ST) (p : Int) (q : Int) (u : Int) (Q : ST → Prop) : Prop := bx <| RA s → R32 p → R32 q → R32 u → q_met mX6_enterOrLeave (qs layX s) [.ref 80, .int (Int32.ofInt p), .int (Int32.ofInt q), .int (Int32.ofInt u)] (PV layX Q)
theorem C_X6_enterOrLeave.mono {s : ST} {p : Int} {q : Int} {u : Int} {Q Q' : ST → Prop} (h : C_X6_enterOrLeave s p q u Q) (hq : ∀ s, Q s → Q' s) : C_X6_enterOrLeave s p q u Q' := ⟨fun hA hrp hrq hru => q_met.mono (h.1 hA hrp hrq hru) (fun _ _ => PV.mono hq), trivial⟩
set_option maxRecDepth 20000 in
theorem s_X6_enterOrLeave {s : ST} {p : Int} {q : Int} {u : Int} {Q : ST → Prop} (h : RA s → R32 p → R32 q → R32 u → ((¬ u = 0 → (C_X6_leave s (s.1 80 13) (fun s1 => Q s1))) ∧ (u = 0 → (C_X6_enter s p q (fun s2 => Q s2))))) : C_X6_enterOrLeave s p q u Q := by
  refine ⟨?_, trivial⟩
  intro hA hrp hrq hru
  have h := h hA hrp hrq hru
  refine q_enter (by decide) (Nat.le_of_ble_eq_true rfl) ?_
  refine q_iload_n eX6_enterOrLeave_0 rfl ?_
  refine q_iz_ne (tgt := 13) (a := u) eX6_enterOrLeave_1 (by decide) (ofz hru) (fun c1 => ?_) (fun c1 => ?_)
  · have h := h.1 c1
    refine q_aload_n eX6_enterOrLeave_13 rfl ?_
    refine q_aload_n eX6_enterOrLeave_14 rfl ?_
    refine q_getf (c := 6) (n := 0) (k := 13) (v := .int (Int32.ofInt (s.1 80 13))) eX6_enterOrLeave_15 rfl (by decide) (by decide) fX6_50 rfl ?_
    refine q_V1 (ci := 6) (n := 0) eX6_enterOrLeave_18 DX6_leave lX6_112 rfl (by decide) rfl rfl rfl rfl (h.1 hA (hA _ _)) ?_
    rintro _ _ ⟨s1, rfl, hA1, rfl, h⟩
    exact q_ret eX6_enterOrLeave_21 rfl ⟨_, rfl, hA1, rfl, h⟩
  · have h := h.2 c1
    refine q_aload_n eX6_enterOrLeave_4 rfl ?_
    refine q_iload_n eX6_enterOrLeave_5 rfl ?_
    refine q_iload_n eX6_enterOrLeave_6 rfl ?_
    refine q_V2 (ci := 6) (n := 0) eX6_enterOrLeave_7 DX6_enter lX6_62 rfl (by decide) rfl rfl rfl rfl (h.1 hA hrp hrq) ?_
    rintro _ _ ⟨s2, rfl, hA2, rfl, h⟩
    refine q_goto (tgt := 21) eX6_enterOrLeave_10 (by decide) ?_
    exact q_ret eX6_enterOrLeave_21 rfl ⟨_, rfl, hA2, rfl, h⟩
theorem eX6_stepName_0 : decode cX6_stepName 0 = .ok (.aload_n 0, 1) := by decide +kernel
theorem eX6_stepName_1 : decode cX6_stepName 1 = .ok (.getfield 37, 3) := by decide +kernel
theorem eX6_stepName_4 : decode cX6_stepName 4 = .ok (.iload_n 1, 1) := by decide +kernel
theorem eX6_stepName_5 : decode cX6_stepName 5 = .ok (.invokevirtual 118, 3) := by decide +kernel
theorem eX6_stepName_8 : decode cX6_stepName 8 = .ok (.istore 4, 2) := by decide +kernel
theorem eX6_stepName_10 : decode cX6_stepName 10 = .ok (.iload 4, 2) := by decide +kernel
theorem eX6_stepName_12 : decode cX6_stepName 12 = .ok (.bipush 40, 2) := by decide +kernel
theorem eX6_stepName_14 : decode cX6_stepName 14 = .ok (.if_icmp .lt 7, 3) := by decide +kernel
theorem eX6_stepName_17 : decode cX6_stepName 17 = .ok (.iconst (-1), 1) := by decide +kernel
theorem eX6_stepName_18 : decode cX6_stepName 18 = .ok (.goto 4, 3) := by decide +kernel
theorem eX6_stepName_21 : decode cX6_stepName 21 = .ok (.iload_n 2, 1) := by decide +kernel
theorem eX6_stepName_22 : decode cX6_stepName 22 = .ok (.istore 5, 2) := by decide +kernel
theorem eX6_stepName_24 : decode cX6_stepName 24 = .ok (.aload_n 0, 1) := by decide +kernel
theorem eX6_stepName_25 : decode cX6_stepName 25 = .ok (.getfield 37, 3) := by decide +kernel
theorem eX6_stepName_28 : decode cX6_stepName 28 = .ok (.iload_n 1, 1) := by decide +kernel
theorem eX6_stepName_29 : decode cX6_stepName 29 = .ok (.invokevirtual 121, 3) := by decide +kernel
theorem eX6_stepName_32 : decode cX6_stepName 32 = .ok (.istore 6, 2) := by decide +kernel
theorem eX6_stepName_34 : decode cX6_stepName 34 = .ok (.iconst 0, 1) := by decide +kernel
theorem eX6_stepName_35 : decode cX6_stepName 35 = .ok (.istore 7, 2) := by decide +kernel
theorem eX6_stepName_37 : decode cX6_stepName 37 = .ok (.iload 7, 2) := by decide +kernel
theorem eX6_stepName_39 : decode cX6_stepName 39 = .ok (.bipush 40, 2) := by decide +kernel
theorem eX6_stepName_41 : decode cX6_stepName 41 = .ok (.if_icmp .ge 60, 3) := by decide +kernel
theorem eX6_stepName_44 : decode cX6_stepName 44 = .ok (.iload 6, 2) := by decide +kernel
theorem eX6_stepName_46 : decode cX6_stepName 46 = .ok (.iload 4, 2) := by decide +kernel
theorem eX6_stepName_48 : decode cX6_stepName 48 = .ok (.if_icmp .eq 53, 3) := by decide +kernel
theorem eX6_stepName_51 : decode cX6_stepName 51 = .ok (.iload 6, 2) := by decide +kernel
theorem eX6_stepName_53 : decode cX6_stepName 53 = .ok (.iconst (-1), 1) := by decide +kernel
theorem eX6_stepName_54 : decode cX6_stepName 54 = .ok (.if_icmp .eq 47, 3) := by decide +kernel
theorem eX6_stepName_57 : decode cX6_stepName 57 = .ok (.iload 5, 2) := by decide +kernel
theorem eX6_stepName_59 : decode cX6_stepName 59 = .ok (.iconst (-1), 1) := by decide +kernel
theorem eX6_stepName_60 : decode cX6_stepName 60 = .ok (.if_icmp .eq 41, 3) := by decide +kernel
theorem eX6_stepName_63 : decode cX6_stepName 63 = .ok (.aload_n 0, 1) := by decide +kernel
theorem eX6_stepName_64 : decode cX6_stepName 64 = .ok (.getfield 37, 3) := by decide +kernel
theorem eX6_stepName_67 : decode cX6_stepName 67 = .ok (.iload 6, 2) := by decide +kernel
theorem eX6_stepName_69 : decode cX6_stepName 69 = .ok (.invokevirtual 87, 3) := by decide +kernel
theorem eX6_stepName_72 : decode cX6_stepName 72 = .ok (.iconst 3, 1) := by decide +kernel
theorem eX6_stepName_73 : decode cX6_stepName 73 = .ok (.if_icmp .ne 11, 3) := by decide +kernel
theorem eX6_stepName_76 : decode cX6_stepName 76 = .ok (.aload_n 0, 1) := by decide +kernel
theorem eX6_stepName_77 : decode cX6_stepName 77 = .ok (.iload 5, 2) := by decide +kernel
theorem eX6_stepName_79 : decode cX6_stepName 79 = .ok (.invokevirtual 124, 3) := by decide +kernel
theorem eX6_stepName_82 : decode cX6_stepName 82 = .ok (.istore 5, 2) := by decide +kernel
theorem eX6_stepName_84 : decode cX6_stepName 84 = .ok (.aload_n 0, 1) := by decide +kernel
theorem eX6_stepName_85 : decode cX6_stepName 85 = .ok (.getfield 37, 3) := by decide +kernel
theorem eX6_stepName_88 : decode cX6_stepName 88 = .ok (.iload 6, 2) := by decide +kernel
theorem eX6_stepName_90 : decode cX6_stepName 90 = .ok (.invokevirtual 121, 3) := by decide +kernel
theorem eX6_stepName_93 : decode cX6_stepName 93 = .ok (.istore 6, 2) := by decide +kernel
theorem eX6_stepName_95 : decode cX6_stepName 95 = .ok (.iinc 7 1, 3) := by decide +kernel
theorem eX6_stepName_98 : decode cX6_stepName 98 = .ok (.goto (-61), 3) := by decide +kernel
theorem eX6_stepName_101 : decode cX6_stepName 101 = .ok (.aload_n 0, 1) := by decide +kernel
theorem eX6_stepName_102 : decode cX6_stepName 102 = .ok (.getfield 37, 3) := by decide +kernel
theorem eX6_stepName_105 : decode cX6_stepName 105 = .ok (.iload_n 1, 1) := by decide +kernel
theorem eX6_stepName_106 : decode cX6_stepName 106 = .ok (.invokevirtual 127, 3) := by decide +kernel
theorem eX6_stepName_109 : decode cX6_stepName 109 = .ok (.istore 7, 2) := by decide +kernel
theorem eX6_stepName_111 : decode cX6_stepName 111 = .ok (.iload 7, 2) := by decide +kernel
theorem eX6_stepName_113 : decode cX6_stepName 113 = .ok (.iconst (-1), 1) := by decide +kernel
theorem eX6_stepName_114 : decode cX6_stepName 114 = .ok (.if_icmp .ne 16, 3) := by decide +kernel
theorem eX6_stepName_117 : decode cX6_stepName 117 = .ok (.aload_n 0, 1) := by decide +kernel
theorem eX6_stepName_118 : decode cX6_stepName 118 = .ok (.aload_n 0, 1) := by decide +kernel
theorem eX6_stepName_119 : decode cX6_stepName 119 = .ok (.iload 5, 2) := by decide +kernel
theorem eX6_stepName_121 : decode cX6_stepName 121 = .ok (.invokevirtual 130, 3) := by decide +kernel
theorem eX6_stepName_124 : decode cX6_stepName 124 = .ok (.invokevirtual 112, 3) := by decide +kernel
theorem eX6_stepName_127 : decode cX6_stepName 127 = .ok (.goto 12, 3) := by decide +kernel
theorem eX6_stepName_130 : decode cX6_stepName 130 = .ok (.aload_n 0, 1) := by decide +kernel
theorem eX6_stepName_131 : decode cX6_stepName 131 = .ok (.iload 7, 2) := by decide +kernel
theorem eX6_stepName_133 : decode cX6_stepName 133 = .ok (.iload 5, 2) := by decide +kernel
theorem eX6_stepName_135 : decode cX6_stepName 135 = .ok (.iload_n 3, 1) := by decide +kernel
theorem eX6_stepName_136 : decode cX6_stepName 136 = .ok (.invokevirtual 98, 3) := by decide +kernel
theorem eX6_stepName_139 : decode cX6_stepName 139 = .ok (.return_, 1) := by decide +kernel
def C_X6_stepName (s : ST) (p : Int) (q : Int) (u : Int) (Q : ST → Prop) : Prop := bx <| RA s → R32 p → R32 q → R32 u → q_met mX6_stepName (qs layX s) [.ref 80, .int (Int32.ofInt p), .int (Int32.ofInt q), .int (Int32.ofInt u)] (PV layX Q)
theorem C_X6_stepName.mono {s : ST} {p : Int} {q : Int} {u : Int} {Q Q' : ST → Prop} (h : C_X6_stepName s p q u Q) (hq : ∀ s, Q s → Q' s) : C_X6_stepName s p q u Q' := ⟨fun hA hrp hrq hru => q_met.mono (h.1 hA hrp hrq hru) (fun _ _ => PV.mono hq), trivial⟩
def K_X6_stepName_101 (s : ST) (a1 : Int) (a3 : Int) (a5 : Int) (Q : ST → Prop) : Prop := bx <| RA s → R32 a1 → R32 a3 → R32 a5 → q_K mX6_stepName (qs layX s) 0 0 101 [(0, .ref 80), (1, .int (Int32.ofInt a1)), (3, .int (Int32.ofInt a3)), (5, .int (Int32.ofInt a5))] [] (q_fin mX6_stepName (PV layX Q))
def K_X6_stepName_84 (s : ST) (a1 : Int) (a3 : Int) (a4 : Int) (a5 : Int) (a6 : Int) (a7 : Int) (Q : ST → Prop) : Prop := bx <| RA s → R32 a1 → R32 a3 → R32 a4 → R32 a5 → R32 a6 → R32 a7 → q_K mX6_stepName (qs layX s) 0 0 84 [(0, .ref 80), (1, .int (Int32.ofInt a1)), (3, .int (Int32.ofInt a3)), (4, .int (Int32.ofInt a4)), (5, .int (Int32.ofInt a5)), (6, .int (Int32.ofInt a6)), (7, .int (Int32.ofInt a7))] [] (q_fin mX6_stepName (PV layX Q))
def K_X6_stepName_37 (s : ST) (a1 : Int) (a3 : Int) (a4 : Int) (a5 : Int) (a6 : Int) (a7 : Int) (Q : ST → Prop) : Prop := bx <| RA s → R32 a1 → R32 a3 → R32 a4 → R32 a5 → R32 a6 → R32 a7 → q_K mX6_stepName (qs layX s) 0 0 37 [(0, .ref 80), (1, .int (Int32.ofInt a1)), (3, .int (Int32.ofInt a3)), (4, .int (Int32.ofInt a4)), (5, .int (Int32.ofInt a5)), (6, .int (Int32.ofInt a6)), (7, .int (Int32.ofInt a7))] [] (q_fin mX6_stepName (PV layX Q))
def K_X6_stepName_22 (s : ST) (a1 : Int) (a3 : Int) (a4 : Int) (t0 : Int) (Q : ST → Prop) : Prop := bx <| RA s → R32 a1 → R32 a3 → R32 a4 → R32 t0 → q_K mX6_stepName (qs layX s) 0 0 22 [(0, .ref 80), (1, .int (Int32.ofInt a1)), (3, .int (Int32.ofInt a3)), (4, .int (Int32.ofInt a4))] [.int (Int32.ofInt t0)] (q_fin mX6_stepName (PV layX Q))
set_option maxRecDepth 20000 in
theorem s_X6_stepName_101 {s : ST} {a1 : Int} {a3 : Int} {a5 : Int} {Q : ST → Prop} (h : RA s → R32 a1 → R32 a3 → R32 a5 → (P_X9_meantBy 2 s a1 ∧ ((¬ (F_X9_meantBy 2 s a1) = (-1) → (C_X6_enterOrLeave s (F_X9_meantBy 2 s a1) a5 a3 (fun s3 => Q s3))) ∧ ((F_X9_meantBy 2 s a1) = (-1) → (P_X6_oneOf s a5 ∧ (C_X6_leave s (F_X6_oneOf s a5) (fun s6 => Q s6))))))) : K_X6_stepName_101 s a1 a3 a5 Q := by
  refine ⟨?_, trivial⟩
  intro hA hra1 hra3 hra5
  have h := h hA hra1 hra3 hra5
  refine q_aload_n eX6_stepName_101 rfl ?_
  refine q_getR (c := 6) (n := 0) (k := 3) (a := 2) eX6_stepName_102 rfl (by decide) (by decide) fX6_37 rfl rfl ?_
  refine q_iload_n eX6_stepName_105 rfl ?_
  have f2 := h.1
  have h := h.2
  refine q_V1 (ci := 9) (n := 0) eX6_stepName_106 DX9_meantBy lX6_127 rfl (by decide) rfl rfl rfl rfl (p_X9_meantBy f2 (by decide) hA hra1) ?_
  rintro _ _ ⟨r1, rfl, rfl⟩
  refine q_istore eX6_stepName_109 (Nat.le_of_ble_eq_true rfl) ?_
  refine q_iload eX6_stepName_111 rfl ?_
  refine q_ic (v := Int32.ofInt (-1)) eX6_stepName_113 rfl ?_
  refine q_cz_ne (tgt := 130) (a := (F_X9_meantBy 2 s a1)) (b := (-1)) eX6_stepName_114 (by decide) (ofz r1) (ofz (r32l rfl)) (fun c114 => ?_) (fun c114 => ?_)
  · have h := h.1 c114
    refine q_aload_n eX6_stepName_130 rfl ?_
    refine q_iload eX6_stepName_131 rfl ?_
    refine q_iload eX6_stepName_133 rfl ?_
    refine q_iload_n eX6_stepName_135 rfl ?_
    refine q_V3 (ci := 6) (n := 0) eX6_stepName_136 DX6_enterOrLeave lX6_98 rfl (by decide) rfl rfl rfl rfl (h.1 hA r1 hra5 hra3) ?_
    rintro _ _ ⟨s3, rfl, hA3, rfl, h⟩
    exact q_ret eX6_stepName_139 rfl ⟨_, rfl, hA3, rfl, h⟩
  · have h := h.2 c114
    refine q_aload_n eX6_stepName_117 rfl ?_
    refine q_aload_n eX6_stepName_118 rfl ?_
    refine q_iload eX6_stepName_119 rfl ?_
    have f5 := h.1
    have h := h.2
    refine q_V1 (ci := 6) (n := 0) eX6_stepName_121 DX6_oneOf lX6_130 rfl (by decide) rfl rfl rfl rfl (p_X6_oneOf f5 hA hra5) ?_
    rintro _ _ ⟨r4, rfl, rfl⟩
    refine q_V1 (ci := 6) (n := 0) eX6_stepName_124 DX6_leave lX6_112 rfl (by decide) rfl rfl rfl rfl (h.1 hA r4) ?_
    rintro _ _ ⟨s6, rfl, hA6, rfl, h⟩
    refine q_goto (tgt := 139) eX6_stepName_127 (by decide) ?_
    exact q_ret eX6_stepName_139 rfl ⟨_, rfl, hA6, rfl, h⟩
set_option maxRecDepth 20000 in
theorem s_X6_stepName_84 {s : ST} {a1 : Int} {a3 : Int} {a4 : Int} {a5 : Int} {a6 : Int} {a7 : Int} {Q : ST → Prop} (h : RA s → R32 a1 → R32 a3 → R32 a4 → R32 a5 → R32 a6 → R32 a7 → (P_X9_parentOf 2 s a6 ∧ (R32 (a7 + 1) ∧ K_X6_stepName_37 s a1 a3 a4 a5 (F_X9_parentOf 2 s a6) (a7 + 1) Q))) : K_X6_stepName_84 s a1 a3 a4 a5 a6 a7 Q := by
  refine ⟨?_, trivial⟩
  intro hA hra1 hra3 hra4 hra5 hra6 hra7
  have h := h hA hra1 hra3 hra4 hra5 hra6 hra7
  refine q_aload_n eX6_stepName_84 rfl ?_
  refine q_getR (c := 6) (n := 0) (k := 3) (a := 2) eX6_stepName_85 rfl (by decide) (by decide) fX6_37 rfl rfl ?_
  refine q_iload eX6_stepName_88 rfl ?_
  have f2 := h.1
  have h := h.2
  refine q_V1 (ci := 9) (n := 0) eX6_stepName_90 DX9_parentOf lX6_121 rfl (by decide) rfl rfl rfl rfl (p_X9_parentOf f2 (by decide) hA hra6) ?_
  rintro _ _ ⟨r1, rfl, rfl⟩
  refine q_istore eX6_stepName_93 (Nat.le_of_ble_eq_true rfl) ?_
  have r3 := h.1
  have h := h.2
  refine z_inc (m := 1) eX6_stepName_95 rfl (Nat.le_of_ble_eq_true rfl) rfl ?_
  refine q_goto (tgt := 37) eX6_stepName_98 (by decide) ?_
  exact q_subL rfl (h.1 hA hra1 hra3 hra4 hra5 r1 r3)
set_option maxRecDepth 20000 in
theorem s_X6_stepName_37 {s : ST} {a1 : Int} {a3 : Int} {a4 : Int} {a5 : Int} {a6 : Int} {a7 : Int} {Q : ST → Prop} (h : RA s → R32 a1 → R32 a3 → R32 a4 → R32 a5 → R32 a6 → R32 a7 → ((40 ≤ a7 → K_X6_stepName_101 s a1 a3 a5 Q) ∧ (¬ 40 ≤ a7 → ((a6 = a4 → K_X6_stepName_101 s a1 a3 a5 Q) ∧ (¬ a6 = a4 → ((a6 = (-1) → K_X6_stepName_101 s a1 a3 a5 Q) ∧ (¬ a6 = (-1) → ((a5 = (-1) → K_X6_stepName_101 s a1 a3 a5 Q) ∧ (¬ a5 = (-1) → (P_X9_sortOf 2 s a6 ∧ ((¬ (F_X9_sortOf 2 s a6) = 3 → K_X6_stepName_84 s a1 a3 a4 a5 a6 a7 Q) ∧ ((F_X9_sortOf 2 s a6) = 3 → (P_X6_twoOf s a5 ∧ K_X6_stepName_84 s a1 a3 a4 (F_X6_twoOf s a5) a6 a7 Q))))))))))))) : K_X6_stepName_37 s a1 a3 a4 a5 a6 a7 Q := by
  refine ⟨?_, trivial⟩
  intro hA hra1 hra3 hra4 hra5 hra6 hra7
  have h := h hA hra1 hra3 hra4 hra5 hra6 hra7
  refine q_iload eX6_stepName_37 rfl ?_
  refine q_bi (v := Int32.ofInt 40) eX6_stepName_39 rfl ?_
  refine q_cz_ge (tgt := 101) (a := a7) (b := 40) eX6_stepName_41 (by decide) (ofz hra7) (ofz (r32l rfl)) (fun c41 => ?_) (fun c41 => ?_)
  · have h := h.1 c41
    exact q_subL rfl (h.1 hA hra1 hra3 hra5)
  · have h := h.2 c41
    refine q_iload eX6_stepName_44 rfl ?_
    refine q_iload eX6_stepName_46 rfl ?_
    refine q_cz_eq (tgt := 101) (a := a6) (b := a4) eX6_stepName_48 (by decide) (ofz hra6) (ofz hra4) (fun c48 => ?_) (fun c48 => ?_)
    · have h := h.1 c48
      exact q_subL rfl (h.1 hA hra1 hra3 hra5)
    · have h := h.2 c48
      refine q_iload eX6_stepName_51 rfl ?_
      refine q_ic (v := Int32.ofInt (-1)) eX6_stepName_53 rfl ?_
      refine q_cz_eq (tgt := 101) (a := a6) (b := (-1)) eX6_stepName_54 (by decide) (ofz hra6) (ofz (r32l rfl)) (fun c54 => ?_) (fun c54 => ?_)
      · have h := h.1 c54
        exact q_subL rfl (h.1 hA hra1 hra3 hra5)
      · have h := h.2 c54
        refine q_iload eX6_stepName_57 rfl ?_
        refine q_ic (v := Int32.ofInt (-1)) eX6_stepName_59 rfl ?_
        refine q_cz_eq (tgt := 101) (a := a5) (b := (-1)) eX6_stepName_60 (by decide) (ofz hra5) (ofz (r32l rfl)) (fun c60 => ?_) (fun c60 => ?_)
        · have h := h.1 c60
          exact q_subL rfl (h.1 hA hra1 hra3 hra5)
        · have h := h.2 c60
          refine q_aload_n eX6_stepName_63 rfl ?_
          refine q_getR (c := 6) (n := 0) (k := 3) (a := 2) eX6_stepName_64 rfl (by decide) (by decide) fX6_37 rfl rfl ?_
          refine q_iload eX6_stepName_67 rfl ?_
          have f2 := h.1
          have h := h.2
          refine q_V1 (ci := 9) (n := 0) eX6_stepName_69 DX9_sortOf lX6_87 rfl (by decide) rfl rfl rfl rfl (p_X9_sortOf f2 (by decide) hA hra6) ?_
          rintro _ _ ⟨r1, rfl, rfl⟩
          refine q_ic (v := Int32.ofInt 3) eX6_stepName_72 rfl ?_
          refine q_cz_ne (tgt := 84) (a := (F_X9_sortOf 2 s a6)) (b := 3) eX6_stepName_73 (by decide) (ofz r1) (ofz (r32l rfl)) (fun c73 => ?_) (fun c73 => ?_)
          · have h := h.1 c73
            exact q_subL rfl (h.1 hA hra1 hra3 hra4 hra5 hra6 hra7)
          · have h := h.2 c73
            refine q_aload_n eX6_stepName_76 rfl ?_
            refine q_iload eX6_stepName_77 rfl ?_
            have f4 := h.1
            have h := h.2
            refine q_V1 (ci := 6) (n := 0) eX6_stepName_79 DX6_twoOf lX6_124 rfl (by decide) rfl rfl rfl rfl (p_X6_twoOf f4 hA hra5) ?_
            rintro _ _ ⟨r3, rfl, rfl⟩
            refine q_istore eX6_stepName_82 (Nat.le_of_ble_eq_true rfl) ?_
            exact q_subL rfl (h.1 hA hra1 hra3 hra4 r3 hra6 hra7)
set_option maxRecDepth 20000 in
theorem s_X6_stepName_22 {s : ST} {a1 : Int} {a3 : Int} {a4 : Int} {t0 : Int} {Q : ST → Prop} (h : RA s → R32 a1 → R32 a3 → R32 a4 → R32 t0 → (P_X9_parentOf 2 s a1 ∧ K_X6_stepName_37 s a1 a3 a4 t0 (F_X9_parentOf 2 s a1) 0 Q)) : K_X6_stepName_22 s a1 a3 a4 t0 Q := by
  refine ⟨?_, trivial⟩
  intro hA hra1 hra3 hra4 hrt0
  have h := h hA hra1 hra3 hra4 hrt0
  refine q_istore eX6_stepName_22 (Nat.le_of_ble_eq_true rfl) ?_
  refine q_aload_n eX6_stepName_24 rfl ?_
  refine q_getR (c := 6) (n := 0) (k := 3) (a := 2) eX6_stepName_25 rfl (by decide) (by decide) fX6_37 rfl rfl ?_
  refine q_iload_n eX6_stepName_28 rfl ?_
  have f2 := h.1
  have h := h.2
  refine q_V1 (ci := 9) (n := 0) eX6_stepName_29 DX9_parentOf lX6_121 rfl (by decide) rfl rfl rfl rfl (p_X9_parentOf f2 (by decide) hA hra1) ?_
  rintro _ _ ⟨r1, rfl, rfl⟩
  refine q_istore eX6_stepName_32 (Nat.le_of_ble_eq_true rfl) ?_
  refine q_ic (v := Int32.ofInt 0) eX6_stepName_34 rfl ?_
  refine q_istore eX6_stepName_35 (Nat.le_of_ble_eq_true rfl) ?_
  exact q_subL rfl (h.1 hA hra1 hra3 hra4 hrt0 r1 (r32l rfl))
set_option maxRecDepth 20000 in
theorem s_X6_stepName {s : ST} {p : Int} {q : Int} {u : Int} {Q : ST → Prop} (h : RA s → R32 p → R32 q → R32 u → (P_X9_targetOf 2 s p ∧ (((F_X9_targetOf 2 s p) < 40 → K_X6_stepName_22 s p u (F_X9_targetOf 2 s p) q Q) ∧ (¬ (F_X9_targetOf 2 s p) < 40 → K_X6_stepName_22 s p u (F_X9_targetOf 2 s p) (-1) Q)))) : C_X6_stepName s p q u Q := by
  refine ⟨?_, trivial⟩
  intro hA hrp hrq hru
  have h := h hA hrp hrq hru
  refine q_enter (by decide) (Nat.le_of_ble_eq_true rfl) ?_
  refine q_aload_n eX6_stepName_0 rfl ?_
  refine q_getR (c := 6) (n := 0) (k := 3) (a := 2) eX6_stepName_1 rfl (by decide) (by decide) fX6_37 rfl rfl ?_
  refine q_iload_n eX6_stepName_4 rfl ?_
  have f2 := h.1
  have h := h.2
  refine q_V1 (ci := 9) (n := 0) eX6_stepName_5 DX9_targetOf lX6_118 rfl (by decide) rfl rfl rfl rfl (p_X9_targetOf f2 (by decide) hA hrp) ?_
  rintro _ _ ⟨r1, rfl, rfl⟩
  refine q_istore eX6_stepName_8 (Nat.le_of_ble_eq_true rfl) ?_
  refine q_iload eX6_stepName_10 rfl ?_
  refine q_bi (v := Int32.ofInt 40) eX6_stepName_12 rfl ?_
  refine q_cz_lt (tgt := 21) (a := (F_X9_targetOf 2 s p)) (b := 40) eX6_stepName_14 (by decide) (ofz r1) (ofz (r32l rfl)) (fun c14 => ?_) (fun c14 => ?_)
  · have h := h.1 c14
    refine q_iload_n eX6_stepName_21 rfl ?_
    exact q_subL rfl (h.1 hA hrp hru r1 hrq)
  · have h := h.2 c14
    refine q_ic (v := Int32.ofInt (-1)) eX6_stepName_17 rfl ?_
    refine q_goto (tgt := 22) eX6_stepName_18 (by decide) ?_
    exact q_subL rfl (h.1 hA hrp hru r1 (r32l rfl))
theorem eX6_headOf_0 : decode cX6_headOf 0 = .ok (.aload_n 0, 1) := by decide +kernel
theorem eX6_headOf_1 : decode cX6_headOf 1 = .ok (.iload_n 1, 1) := by decide +kernel
theorem eX6_headOf_2 : decode cX6_headOf 2 = .ok (.invokevirtual 83, 3) := by decide +kernel
theorem eX6_headOf_5 : decode cX6_headOf 5 = .ok (.ifCond .eq 12, 3) := by decide +kernel
theorem eX6_headOf_8 : decode cX6_headOf 8 = .ok (.aload_n 0, 1) := by decide +kernel
theorem eX6_headOf_9 : decode cX6_headOf 9 = .ok (.getfield 15, 3) := by decide +kernel
theorem eX6_headOf_12 : decode cX6_headOf 12 = .ok (.iload_n 1, 1) := by decide +kernel
theorem eX6_headOf_13 : decode cX6_headOf 13 = .ok (.iaload, 1) := by decide +kernel
theorem eX6_headOf_14 : decode cX6_headOf 14 = .ok (.goto 4, 3) := by decide +kernel
theorem eX6_headOf_17 : decode cX6_headOf 17 = .ok (.iconst (-1), 1) := by decide +kernel
theorem eX6_headOf_18 : decode cX6_headOf 18 = .ok (.ireturn, 1) := by decide +kernel
def C_X6_headOf (s : ST) (p : Int) (Q : ST → Int → Prop) : Prop := bx <| RA s → R32 p → q_met mX6_headOf (qs layX s) [.ref 80, .int (Int32.ofInt p)] (PI layX Q)
theorem C_X6_headOf.mono {s : ST} {p : Int} {Q Q' : ST → Int → Prop} (h : C_X6_headOf s p Q) (hq : ∀ s v, Q s v → Q' s v) : C_X6_headOf s p Q' := ⟨fun hA hrp => q_met.mono (h.1 hA hrp) (fun _ _ => PI.mono hq), trivial⟩
set_option maxRecDepth 20000 in
theorem s_X6_headOf {s : ST} {p : Int} {Q : ST → Int → Prop} (h : RA s → R32 p → ((¬ (¬ p < 0 ∧ (¬ s.1 80 7 ≤ p ∧ ¬ 4000 ≤ p)) → Q s (-1)) ∧ ((¬ p < 0 ∧ (¬ s.1 80 7 ≤ p ∧ ¬ 4000 ≤ p)) → (((0 : Int) ≤ p ∧ p < 4000) ∧ Q s (s.1 81 p))))) : C_X6_headOf s p Q := by
  refine ⟨?_, trivial⟩
  intro hA hrp
  have h := h hA hrp
  refine q_enter (by decide) (Nat.le_of_ble_eq_true rfl) ?_
  refine q_aload_n eX6_headOf_0 rfl ?_
  refine q_iload_n eX6_headOf_1 rfl ?_
  refine q_V1 (ci := 6) (n := 0) eX6_headOf_2 DX6_isCell lX6_83 rfl (by decide) rfl rfl rfl rfl (p_X6_isCell hA hrp) ?_
  rintro _ _ ⟨b1, rfl, rfl⟩
  refine q_iz_eq (tgt := 17) (a := (F_X6_isCell s p)) eX6_headOf_5 (by decide) (ofz (r01 b1)) (fun c5 => ?_) (fun c5 => ?_)
  · have h := h.1 (fun q => n_X6_isCell.mpr q c5)
    refine q_ic (v := Int32.ofInt (-1)) eX6_headOf_17 rfl ?_
    exact q_iret eX6_headOf_18 rfl ⟨_, _, rfl, hA, (r32l rfl), rfl, h⟩
  · have h := h.2 (n_X6_isCell.mp c5)
    refine q_aload_n eX6_headOf_8 rfl ?_
    refine q_getR (c := 6) (n := 0) (k := 4) (a := 81) eX6_headOf_9 rfl (by decide) (by decide) fX6_15 rfl rfl ?_
    refine q_iload_n eX6_headOf_12 rfl ?_
    have f2 := h.1
    have h := h.2
    refine z_iald (n := 4000) eX6_headOf_13 rfl (ofz hrp) f2 ?_
    refine q_topI (v := Int32.ofInt (s.1 81 p)) rfl ?_
    refine q_goto (tgt := 18) eX6_headOf_14 (by decide) ?_
    exact q_iret eX6_headOf_18 rfl ⟨_, _, rfl, hA, (hA _ _), rfl, h⟩
def F_X6_headOf (s : ST) (p : Int) : Int := (if (¬ p < 0 ∧ (¬ s.1 80 7 ≤ p ∧ ¬ 4000 ≤ p)) then s.1 81 p else (-1))
abbrev P_X6_headOf (s : ST) (p : Int) : Prop := ((¬ p < 0 ∧ (¬ s.1 80 7 ≤ p ∧ ¬ 4000 ≤ p)) → ((0 : Int) ≤ p ∧ p < 4000))
theorem w_X6_headOf {s : ST} {p : Int} (h : P_X6_headOf s p) : C_X6_headOf s p (fun s' v => s' = s ∧ v = F_X6_headOf s p) := by
  refine s_X6_headOf (fun hA hrp => ?_)
  unfold P_X6_headOf at h
  refine ⟨fun e0 => ?_, fun e0 => ?_⟩
  · exact ⟨rfl, by unfold F_X6_headOf; rw [if_neg e0]⟩
  · have h := h e0
    refine ⟨h, ?_⟩
    exact ⟨rfl, by unfold F_X6_headOf; rw [if_pos e0]⟩
theorem p_X6_headOf {s : ST} {p : Int} (h : P_X6_headOf s p) : RA s → R32 p → q_met mX6_headOf (qs layX s) [.ref 80, .int (Int32.ofInt p)] (fun σ r => R32 (F_X6_headOf s p) ∧ σ = qs layX s ∧ r = some (.int (Int32.ofInt (F_X6_headOf s p)))) := fun hA hrp => q_met.mono ((w_X6_headOf h).1 hA hrp) (by
  rintro _ _ ⟨s1, v1, rfl, h1, h2, rfl, rfl, rfl⟩
  exact ⟨h2, rfl, rfl⟩)
