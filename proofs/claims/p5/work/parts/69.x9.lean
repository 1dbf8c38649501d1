/-! STEP ROWS of the class. By program (wip/wp/gen_parts.py). -/
theorem eX10_feed_0 : decode cX10_feed 0 = .ok (.aload_n 0, 1) := by decide +kernel
theorem eX10_feed_1 : decode cX10_feed 1 = .ok (.getfield 107, 3) := by decide +kernel
theorem eX10_feed_4 : decode cX10_feed 4 = .ok (.bipush 20, 2) := by decide +kernel
theorem eX10_feed_6 : decode cX10_feed 6 = .ok (.iadd, 1) := by decide +kernel
theorem eX10_feed_7 : decode cX10_feed 7 = .ok (.sipush 1600, 3) := by decide +kernel
theorem eX10_feed_10 : decode cX10_feed 10 = .ok (.if_icmp .le 5, 3) := by decide +kernel
theorem eX10_feed_13 : decode cX10_feed 13 = .ok (.iconst (-1), 1) := by decide +kernel
theorem eX10_feed_14 : decode cX10_feed 14 = .ok (.ireturn, 1) := by decide +kernel
theorem eX10_feed_15 : decode cX10_feed 15 = .ok (.aload_n 0, 1) := by decide +kernel
theorem eX10_feed_16 : decode cX10_feed 16 = .ok (.iload_n 1, 1) := by decide +kernel
theorem eX10_feed_17 : decode cX10_feed 17 = .ok (.invokevirtual 111, 3) := by decide +kernel
theorem eX10_feed_20 : decode cX10_feed 20 = .ok (.aload_n 0, 1) := by decide +kernel
theorem eX10_feed_21 : decode cX10_feed 21 = .ok (.iload_n 2, 1) := by decide +kernel
theorem eX10_feed_22 : decode cX10_feed 22 = .ok (.invokevirtual 111, 3) := by decide +kernel
theorem eX10_feed_25 : decode cX10_feed 25 = .ok (.aload_n 0, 1) := by decide +kernel
theorem eX10_feed_26 : decode cX10_feed 26 = .ok (.iload_n 3, 1) := by decide +kernel
theorem eX10_feed_27 : decode cX10_feed 27 = .ok (.invokevirtual 111, 3) := by decide +kernel
theorem eX10_feed_30 : decode cX10_feed 30 = .ok (.aload_n 0, 1) := by decide +kernel
theorem eX10_feed_31 : decode cX10_feed 31 = .ok (.iload 4, 2) := by decide +kernel
theorem eX10_feed_33 : decode cX10_feed 33 = .ok (.invokevirtual 111, 3) := by decide +kernel
theorem eX10_feed_36 : decode cX10_feed 36 = .ok (.aload_n 0, 1) := by decide +kernel
theorem eX10_feed_37 : decode cX10_feed 37 = .ok (.iload 5, 2) := by decide +kernel
theorem eX10_feed_39 : decode cX10_feed 39 = .ok (.invokevirtual 111, 3) := by decide +kernel
theorem eX10_feed_42 : decode cX10_feed 42 = .ok (.aload_n 0, 1) := by decide +kernel
theorem eX10_feed_43 : decode cX10_feed 43 = .ok (.getfield 107, 3) := by decide +kernel
theorem eX10_feed_46 : decode cX10_feed 46 = .ok (.ireturn, 1) := by decide +kernel
def C_X10_feed (s : ST) (p : Int) (q : Int) (u : Int) (w : Int) (x : Int) (Q : ST → Int → Prop) : Prop := bx <| RA s → R32 p → R32 q → R32 u → R32 w → R32 x → q_met mX10_feed (qs layX s) [.ref 0, .int (Int32.ofInt p), .int (Int32.ofInt q), .int (Int32.ofInt u), .int (Int32.ofInt w), .int (Int32.ofInt x)] (PI layX Q)
theorem C_X10_feed.mono {s : ST} {p : Int} {q : Int} {u : Int} {w : Int} {x : Int} {Q Q' : ST → Int → Prop} (h : C_X10_feed s p q u w x Q) (hq : ∀ s v, Q s v → Q' s v) : C_X10_feed s p q u w x Q' := ⟨fun hA hrp hrq hru hrw hrx => q_met.mono (h.1 hA hrp hrq hru hrw hrx) (fun _ _ => PI.mono hq), trivial⟩
set_option maxRecDepth 20000 in
theorem s_X10_feed {s : ST} {p : Int} {q : Int} {u : Int} {w : Int} {x : Int} {Q : ST → Int → Prop} (h : RA s → R32 p → R32 q → R32 u → R32 w → R32 x → (R32 (s.1 0 1 + 20) ∧ (((s.1 0 1 + 20) ≤ 1600 → (C_X10_tapeNumber s p (fun s2 => (C_X10_tapeNumber s2 q (fun s3 => (C_X10_tapeNumber s3 u (fun s4 => (C_X10_tapeNumber s4 w (fun s5 => (C_X10_tapeNumber s5 x (fun s6 => Q s6 (s6.1 0 1)))))))))))) ∧ (¬ (s.1 0 1 + 20) ≤ 1600 → Q s (-1))))) : C_X10_feed s p q u w x Q := by
  refine ⟨?_, trivial⟩
  intro hA hrp hrq hru hrw hrx
  have h := h hA hrp hrq hru hrw hrx
  refine q_enter (by decide) (Nat.le_of_ble_eq_true rfl) ?_
  refine q_aload_n eX10_feed_0 rfl ?_
  refine q_getf (c := 10) (n := 0) (k := 1) (v := .int (Int32.ofInt (s.1 0 1))) eX10_feed_1 rfl (by decide) (by decide) fX10_107 rfl ?_
  refine q_bi (v := Int32.ofInt 20) eX10_feed_4 rfl ?_
  refine z_iadd eX10_feed_6 ?_
  have r1 := h.1
  have h := h.2
  refine q_si (v := Int32.ofInt 1600) eX10_feed_7 rfl ?_
  refine q_cz_le (tgt := 15) (a := (s.1 0 1 + 20)) (b := 1600) eX10_feed_10 (by decide) (ofz r1) (ofz (r32l rfl)) (fun c10 => ?_) (fun c10 => ?_)
  · have h := h.1 c10
    refine q_aload_n eX10_feed_15 rfl ?_
    refine q_iload_n eX10_feed_16 rfl ?_
    refine q_V1 (ci := 10) (n := 0) eX10_feed_17 DX10_tapeNumber lX10_111 rfl (by decide) rfl rfl rfl rfl (h.1 hA hrp) ?_
    rintro _ _ ⟨s2, rfl, hA2, rfl, h⟩
    refine q_aload_n eX10_feed_20 rfl ?_
    refine q_iload_n eX10_feed_21 rfl ?_
    refine q_V1 (ci := 10) (n := 0) eX10_feed_22 DX10_tapeNumber lX10_111 rfl (by decide) rfl rfl rfl rfl (h.1 hA2 hrq) ?_
    rintro _ _ ⟨s3, rfl, hA3, rfl, h⟩
    refine q_aload_n eX10_feed_25 rfl ?_
    refine q_iload_n eX10_feed_26 rfl ?_
    refine q_V1 (ci := 10) (n := 0) eX10_feed_27 DX10_tapeNumber lX10_111 rfl (by decide) rfl rfl rfl rfl (h.1 hA3 hru) ?_
    rintro _ _ ⟨s4, rfl, hA4, rfl, h⟩
    refine q_aload_n eX10_feed_30 rfl ?_
    refine q_iload eX10_feed_31 rfl ?_
    refine q_V1 (ci := 10) (n := 0) eX10_feed_33 DX10_tapeNumber lX10_111 rfl (by decide) rfl rfl rfl rfl (h.1 hA4 hrw) ?_
    rintro _ _ ⟨s5, rfl, hA5, rfl, h⟩
    refine q_aload_n eX10_feed_36 rfl ?_
    refine q_iload eX10_feed_37 rfl ?_
    refine q_V1 (ci := 10) (n := 0) eX10_feed_39 DX10_tapeNumber lX10_111 rfl (by decide) rfl rfl rfl rfl (h.1 hA5 hrx) ?_
    rintro _ _ ⟨s6, rfl, hA6, rfl, h⟩
    refine q_aload_n eX10_feed_42 rfl ?_
    refine q_getf (c := 10) (n := 0) (k := 1) (v := .int (Int32.ofInt (s6.1 0 1))) eX10_feed_43 rfl (by decide) (by decide) fX10_107 rfl ?_
    exact q_iret eX10_feed_46 rfl ⟨_, _, rfl, hA6, (hA6 _ _), rfl, h⟩
  · have h := h.2 c10
    refine q_ic (v := Int32.ofInt (-1)) eX10_feed_13 rfl ?_
    exact q_iret eX10_feed_14 rfl ⟨_, _, rfl, hA, (r32l rfl), rfl, h⟩
theorem eX10_end_0 : decode cX10_end 0 = .ok (.iload_n 1, 1) := by decide +kernel
theorem eX10_end_1 : decode cX10_end 1 = .ok (.ifCond .lt 11, 3) := by decide +kernel
theorem eX10_end_4 : decode cX10_end 4 = .ok (.iload_n 1, 1) := by decide +kernel
theorem eX10_end_5 : decode cX10_end 5 = .ok (.aload_n 0, 1) := by decide +kernel
theorem eX10_end_6 : decode cX10_end 6 = .ok (.getfield 107, 3) := by decide +kernel
theorem eX10_end_9 : decode cX10_end 9 = .ok (.if_icmp .le 5, 3) := by decide +kernel
theorem eX10_end_12 : decode cX10_end 12 = .ok (.iconst (-1), 1) := by decide +kernel
theorem eX10_end_13 : decode cX10_end 13 = .ok (.ireturn, 1) := by decide +kernel
theorem eX10_end_14 : decode cX10_end 14 = .ok (.aload_n 0, 1) := by decide +kernel
theorem eX10_end_15 : decode cX10_end 15 = .ok (.iload_n 1, 1) := by decide +kernel
theorem eX10_end_16 : decode cX10_end 16 = .ok (.putfield 107, 3) := by decide +kernel
theorem eX10_end_19 : decode cX10_end 19 = .ok (.iload_n 1, 1) := by decide +kernel
theorem eX10_end_20 : decode cX10_end 20 = .ok (.ireturn, 1) := by decide +kernel
def C_X10_end (s : ST) (p : Int) (Q : ST → Int → Prop) : Prop := bx <| RA s → R32 p → q_met mX10_end (qs layX s) [.ref 0, .int (Int32.ofInt p)] (PI layX Q)
theorem C_X10_end.mono {s : ST} {p : Int} {Q Q' : ST → Int → Prop} (h : C_X10_end s p Q) (hq : ∀ s v, Q s v → Q' s v) : C_X10_end s p Q' := ⟨fun hA hrp => q_met.mono (h.1 hA hrp) (fun _ _ => PI.mono hq), trivial⟩
set_option maxRecDepth 20000 in
theorem s_X10_end {s : ST} {p : Int} {Q : ST → Int → Prop} (h : RA s → R32 p → ((p < 0 → Q s (-1)) ∧ (¬ p < 0 → ((p ≤ s.1 0 1 → Q (ui s 0 1 p) p) ∧ (¬ p ≤ s.1 0 1 → Q s (-1)))))) : C_X10_end s p Q := by
  refine ⟨?_, trivial⟩
  intro hA hrp
  have h := h hA hrp
  refine q_enter (by decide) (Nat.le_of_ble_eq_true rfl) ?_
  refine q_iload_n eX10_end_0 rfl ?_
  refine q_iz_lt (tgt := 12) (a := p) eX10_end_1 (by decide) (ofz hrp) (fun c1 => ?_) (fun c1 => ?_)
  · have h := h.1 c1
    refine q_ic (v := Int32.ofInt (-1)) eX10_end_12 rfl ?_
    exact q_iret eX10_end_13 rfl ⟨_, _, rfl, hA, (r32l rfl), rfl, h⟩
  · have h := h.2 c1
    refine q_iload_n eX10_end_4 rfl ?_
    refine q_aload_n eX10_end_5 rfl ?_
    refine q_getf (c := 10) (n := 0) (k := 1) (v := .int (Int32.ofInt (s.1 0 1))) eX10_end_6 rfl (by decide) (by decide) fX10_107 rfl ?_
    refine q_cz_le (tgt := 14) (a := p) (b := s.1 0 1) eX10_end_9 (by decide) (ofz hrp) (ofz (hA _ _)) (fun c9 => ?_) (fun c9 => ?_)
    · have h := h.1 c9
      refine q_aload_n eX10_end_14 rfl ?_
      refine q_iload_n eX10_end_15 rfl ?_
      refine z_putI (c := 10) (n := 0) (k := 1) (kz := 1) eX10_end_16 rfl (by decide) (by decide) fX10_107 rfl rfl rfl ?_
      refine q_iload_n eX10_end_19 rfl ?_
      exact q_iret eX10_end_20 rfl ⟨_, _, rfl, (ra_ui hA hrp), hrp, rfl, h⟩
    · have h := h.2 c9
      refine q_ic (v := Int32.ofInt (-1)) eX10_end_12 rfl ?_
      exact q_iret eX10_end_13 rfl ⟨_, _, rfl, hA, (r32l rfl), rfl, h⟩
theorem eX10_goOnWith_0 : decode cX10_goOnWith 0 = .ok (.aload_n 0, 1) := by decide +kernel
theorem eX10_goOnWith_1 : decode cX10_goOnWith 1 = .ok (.getfield 16, 3) := by decide +kernel
theorem eX10_goOnWith_4 : decode cX10_goOnWith 4 = .ok (.aload_n 1, 1) := by decide +kernel
theorem eX10_goOnWith_5 : decode cX10_goOnWith 5 = .ok (.invokevirtual 270, 3) := by decide +kernel
theorem eX10_goOnWith_8 : decode cX10_goOnWith 8 = .ok (.aload_n 0, 1) := by decide +kernel
theorem eX10_goOnWith_9 : decode cX10_goOnWith 9 = .ok (.getfield 95, 3) := by decide +kernel
theorem eX10_goOnWith_12 : decode cX10_goOnWith 12 = .ok (.invokevirtual 279, 3) := by decide +kernel
theorem eX10_goOnWith_15 : decode cX10_goOnWith 15 = .ok (.aload_n 0, 1) := by decide +kernel
theorem eX10_goOnWith_16 : decode cX10_goOnWith 16 = .ok (.getfield 49, 3) := by decide +kernel
theorem eX10_goOnWith_19 : decode cX10_goOnWith 19 = .ok (.invokevirtual 119, 3) := by decide +kernel
theorem eX10_goOnWith_22 : decode cX10_goOnWith 22 = .ok (.aload_n 0, 1) := by decide +kernel
theorem eX10_goOnWith_23 : decode cX10_goOnWith 23 = .ok (.getfield 61, 3) := by decide +kernel
theorem eX10_goOnWith_26 : decode cX10_goOnWith 26 = .ok (.iconst 0, 1) := by decide +kernel
theorem eX10_goOnWith_27 : decode cX10_goOnWith 27 = .ok (.putfield 282, 3) := by decide +kernel
theorem eX10_goOnWith_30 : decode cX10_goOnWith 30 = .ok (.aload_n 0, 1) := by decide +kernel
theorem eX10_goOnWith_31 : decode cX10_goOnWith 31 = .ok (.getfield 70, 3) := by decide +kernel
theorem eX10_goOnWith_34 : decode cX10_goOnWith 34 = .ok (.invokevirtual 283, 3) := by decide +kernel
theorem eX10_goOnWith_37 : decode cX10_goOnWith 37 = .ok (.aload_n 0, 1) := by decide +kernel
theorem eX10_goOnWith_38 : decode cX10_goOnWith 38 = .ok (.getfield 79, 3) := by decide +kernel
theorem eX10_goOnWith_41 : decode cX10_goOnWith 41 = .ok (.iconst 0, 1) := by decide +kernel
theorem eX10_goOnWith_42 : decode cX10_goOnWith 42 = .ok (.putfield 206, 3) := by decide +kernel
theorem eX10_goOnWith_45 : decode cX10_goOnWith 45 = .ok (.aload_n 0, 1) := by decide +kernel
theorem eX10_goOnWith_46 : decode cX10_goOnWith 46 = .ok (.getfield 88, 3) := by decide +kernel
theorem eX10_goOnWith_49 : decode cX10_goOnWith 49 = .ok (.iconst (-1), 1) := by decide +kernel
theorem eX10_goOnWith_50 : decode cX10_goOnWith 50 = .ok (.putfield 284, 3) := by decide +kernel
theorem eX10_goOnWith_53 : decode cX10_goOnWith 53 = .ok (.aload_n 0, 1) := by decide +kernel
theorem eX10_goOnWith_54 : decode cX10_goOnWith 54 = .ok (.getfield 16, 3) := by decide +kernel
theorem eX10_goOnWith_57 : decode cX10_goOnWith 57 = .ok (.getfield 185, 3) := by decide +kernel
theorem eX10_goOnWith_60 : decode cX10_goOnWith 60 = .ok (.ireturn, 1) := by decide +kernel
def C_X10_goOnWith (o : Nat) (s : ST) (Q : ST → Int → Prop) : Prop := bx <| isT o → RA s → q_met mX10_goOnWith (qs layX s) [.ref 0, .ref o] (PI layX Q)
theorem C_X10_goOnWith.mono {o : Nat} {s : ST} {Q Q' : ST → Int → Prop} (h : C_X10_goOnWith o s Q) (hq : ∀ s v, Q s v → Q' s v) : C_X10_goOnWith o s Q' := ⟨fun ho hA => q_met.mono (h.1 ho hA) (fun _ _ => PI.mono hq), trivial⟩
set_option maxRecDepth 20000 in
theorem s_X10_goOnWith {o : Nat} {s : ST} {Q : ST → Int → Prop} (h : isT o → RA s → (C_X9_copyFrom 2 o s (fun s1 => (C_X8_forget s1 (fun s2 => (C_X0_list 51 s2 (fun s3 => (C_X1_forget (ui s3 67 0 0) (fun s4 => Q (ui (ui s4 76 0 0) 80 2 (-1)) (s4.1 2 1)))))))))) : C_X10_goOnWith o s Q := by
  refine ⟨?_, trivial⟩
  intro ho hA
  have h := h ho hA
  refine q_enter (by decide) (Nat.le_of_ble_eq_true rfl) ?_
  refine q_aload_n eX10_goOnWith_0 rfl ?_
  refine q_getR (c := 10) (n := 0) (k := 3) (a := 2) eX10_goOnWith_1 rfl (by decide) (by decide) fX10_16 rfl rfl ?_
  refine q_aload_n eX10_goOnWith_4 rfl ?_
  refine q_V1 (ci := 9) (n := 0) eX10_goOnWith_5 DX9_copyFrom lX10_270 rfl (by decide) rfl rfl rfl rfl (h.1 (by decide) ho hA) ?_
  rintro _ _ ⟨s1, rfl, hA1, rfl, h⟩
  refine q_aload_n eX10_goOnWith_8 rfl ?_
  refine q_getR (c := 10) (n := 0) (k := 13) (a := 88) eX10_goOnWith_9 rfl (by decide) (by decide) fX10_95 rfl rfl ?_
  refine q_V0 (ci := 8) (n := 0) eX10_goOnWith_12 DX8_forget lX10_279 rfl (by decide) rfl rfl rfl rfl (h.1 hA1) ?_
  rintro _ _ ⟨s2, rfl, hA2, rfl, h⟩
  refine q_aload_n eX10_goOnWith_15 rfl ?_
  refine q_getR (c := 10) (n := 0) (k := 7) (a := 51) eX10_goOnWith_16 rfl (by decide) (by decide) fX10_49 rfl rfl ?_
  refine q_V0 (ci := 0) (n := 0) eX10_goOnWith_19 DX0_list lX10_119 rfl (by decide) rfl rfl rfl rfl (h.1 (by decide) hA2) ?_
  rintro _ _ ⟨s3, rfl, hA3, rfl, h⟩
  refine q_aload_n eX10_goOnWith_22 rfl ?_
  refine q_getR (c := 10) (n := 0) (k := 9) (a := 67) eX10_goOnWith_23 rfl (by decide) (by decide) fX10_61 rfl rfl ?_
  refine q_ic (v := Int32.ofInt 0) eX10_goOnWith_26 rfl ?_
  refine z_putZ (c := 5) (n := 0) (k := 0) (kz := 0) eX10_goOnWith_27 rfl (by decide) (by decide) fX10_282 rfl rfl rfl (z01 (Or.inl rfl)) ?_
  refine q_aload_n eX10_goOnWith_30 rfl ?_
  refine q_getR (c := 10) (n := 0) (k := 10) (a := 69) eX10_goOnWith_31 rfl (by decide) (by decide) fX10_70 rfl rfl ?_
  refine q_V0 (ci := 1) (n := 0) eX10_goOnWith_34 DX1_forget lX10_283 rfl (by decide) rfl rfl rfl rfl (h.1 (ra_ui hA3 (r32l rfl))) ?_
  rintro _ _ ⟨s4, rfl, hA4, rfl, h⟩
  refine q_aload_n eX10_goOnWith_37 rfl ?_
  refine q_getR (c := 10) (n := 0) (k := 11) (a := 76) eX10_goOnWith_38 rfl (by decide) (by decide) fX10_79 rfl rfl ?_
  refine q_ic (v := Int32.ofInt 0) eX10_goOnWith_41 rfl ?_
  refine z_putZ (c := 3) (n := 0) (k := 0) (kz := 0) eX10_goOnWith_42 rfl (by decide) (by decide) fX10_206 rfl rfl rfl (z01 (Or.inl rfl)) ?_
  refine q_aload_n eX10_goOnWith_45 rfl ?_
  refine q_getR (c := 10) (n := 0) (k := 12) (a := 80) eX10_goOnWith_46 rfl (by decide) (by decide) fX10_88 rfl rfl ?_
  refine q_ic (v := Int32.ofInt (-1)) eX10_goOnWith_49 rfl ?_
  refine z_putI (c := 6) (n := 0) (k := 2) (kz := 2) eX10_goOnWith_50 rfl (by decide) (by decide) fX10_284 rfl rfl rfl ?_
  refine q_aload_n eX10_goOnWith_53 rfl ?_
  refine q_getR (c := 10) (n := 0) (k := 3) (a := 2) eX10_goOnWith_54 rfl (by decide) (by decide) fX10_16 rfl rfl ?_
  refine q_getf (c := 9) (n := 0) (k := 1) (v := .int (Int32.ofInt (s4.1 2 1))) eX10_goOnWith_57 rfl (by decide) (by decide) fX10_185 rfl ?_
  exact q_iret eX10_goOnWith_60 rfl ⟨_, _, rfl, (ra_ui (ra_ui hA4 (r32l rfl)) (r32l rfl)), (hA4 _ _), rfl, h⟩
theorem eX10_program_0 : decode cX10_program 0 = .ok (.aload_n 0, 1) := by decide +kernel
theorem eX10_program_1 : decode cX10_program 1 = .ok (.getfield 107, 3) := by decide +kernel
theorem eX10_program_4 : decode cX10_program 4 = .ok (.istore_n 1, 1) := by decide +kernel
theorem eX10_program_5 : decode cX10_program 5 = .ok (.aload_n 0, 1) := by decide +kernel
theorem eX10_program_6 : decode cX10_program 6 = .ok (.iconst 0, 1) := by decide +kernel
theorem eX10_program_7 : decode cX10_program 7 = .ok (.putfield 107, 3) := by decide +kernel
theorem eX10_program_10 : decode cX10_program 10 = .ok (.aload_n 0, 1) := by decide +kernel
theorem eX10_program_11 : decode cX10_program 11 = .ok (.getfield 40, 3) := by decide +kernel
theorem eX10_program_14 : decode cX10_program 14 = .ok (.iload_n 1, 1) := by decide +kernel
theorem eX10_program_15 : decode cX10_program 15 = .ok (.invokevirtual 115, 3) := by decide +kernel
theorem eX10_program_18 : decode cX10_program 18 = .ok (.ifCond .ne 5, 3) := by decide +kernel
theorem eX10_program_21 : decode cX10_program 21 = .ok (.iconst (-1), 1) := by decide +kernel
theorem eX10_program_22 : decode cX10_program 22 = .ok (.ireturn, 1) := by decide +kernel
theorem eX10_program_23 : decode cX10_program 23 = .ok (.aload_n 0, 1) := by decide +kernel
theorem eX10_program_24 : decode cX10_program 24 = .ok (.getfield 53, 3) := by decide +kernel
theorem eX10_program_27 : decode cX10_program 27 = .ok (.invokevirtual 119, 3) := by decide +kernel
theorem eX10_program_30 : decode cX10_program 30 = .ok (.aload_n 0, 1) := by decide +kernel
theorem eX10_program_31 : decode cX10_program 31 = .ok (.getfield 53, 3) := by decide +kernel
theorem eX10_program_34 : decode cX10_program 34 = .ok (.getfield 122, 3) := by decide +kernel
theorem eX10_program_37 : decode cX10_program 37 = .ok (.ifCond .eq 13, 3) := by decide +kernel
theorem eX10_program_40 : decode cX10_program 40 = .ok (.aload_n 0, 1) := by decide +kernel
theorem eX10_program_41 : decode cX10_program 41 = .ok (.getfield 40, 3) := by decide +kernel
theorem eX10_program_44 : decode cX10_program 44 = .ok (.iload_n 1, 1) := by decide +kernel
theorem eX10_program_45 : decode cX10_program 45 = .ok (.invokevirtual 126, 3) := by decide +kernel
theorem eX10_program_48 : decode cX10_program 48 = .ok (.iconst (-1), 1) := by decide +kernel
theorem eX10_program_49 : decode cX10_program 49 = .ok (.ireturn, 1) := by decide +kernel
theorem eX10_program_50 : decode cX10_program 50 = .ok (.iconst 0, 1) := by decide +kernel
theorem eX10_program_51 : decode cX10_program 51 = .ok (.istore_n 2, 1) := by decide +kernel
theorem eX10_program_52 : decode cX10_program 52 = .ok (.iload_n 2, 1) := by decide +kernel
theorem eX10_program_53 : decode cX10_program 53 = .ok (.iconst 3, 1) := by decide +kernel
theorem eX10_program_54 : decode cX10_program 54 = .ok (.if_icmp .ge 16, 3) := by decide +kernel
theorem eX10_program_57 : decode cX10_program 57 = .ok (.aload_n 0, 1) := by decide +kernel
theorem eX10_program_58 : decode cX10_program 58 = .ok (.getfield 103, 3) := by decide +kernel
theorem eX10_program_61 : decode cX10_program 61 = .ok (.iload_n 2, 1) := by decide +kernel
theorem eX10_program_62 : decode cX10_program 62 = .ok (.iconst 0, 1) := by decide +kernel
theorem eX10_program_63 : decode cX10_program 63 = .ok (.bastore, 1) := by decide +kernel
theorem eX10_program_64 : decode cX10_program 64 = .ok (.iinc 2 1, 3) := by decide +kernel
theorem eX10_program_67 : decode cX10_program 67 = .ok (.goto (-15), 3) := by decide +kernel
theorem eX10_program_70 : decode cX10_program 70 = .ok (.aload_n 0, 1) := by decide +kernel
theorem eX10_program_71 : decode cX10_program 71 = .ok (.aload_n 0, 1) := by decide +kernel
theorem eX10_program_72 : decode cX10_program 72 = .ok (.getfield 23, 3) := by decide +kernel
theorem eX10_program_75 : decode cX10_program 75 = .ok (.getfield 36, 3) := by decide +kernel
theorem eX10_program_78 : decode cX10_program 78 = .ok (.invokevirtual 129, 3) := by decide +kernel
theorem eX10_program_81 : decode cX10_program 81 = .ok (.ireturn, 1) := by decide +kernel
def C_X10_program (s : ST) (Q : ST → Int → Prop) : Prop := bx <| RA s → q_met mX10_program (qs layX s) [.ref 0] (PI layX Q)
theorem C_X10_program.mono {s : ST} {Q Q' : ST → Int → Prop} (h : C_X10_program s Q) (hq : ∀ s v, Q s v → Q' s v) : C_X10_program s Q' := ⟨fun hA => q_met.mono (h.1 hA) (fun _ _ => PI.mono hq), trivial⟩
def K_X10_program_52 (s : ST) (a2 : Int) (Q : ST → Int → Prop) : Prop := bx <| RA s → R32 a2 → q_K mX10_program (qs layX s) 0 0 52 [(0, .ref 0), (2, .int (Int32.ofInt a2))] [] (q_fin mX10_program (PI layX Q))
set_option maxRecDepth 20000 in
theorem s_X10_program_52 {s : ST} {a2 : Int} {Q : ST → Int → Prop} (h : RA s → R32 a2 → ((3 ≤ a2 → (C_X10_goOnWith 18 s (fun s1 v1 => Q s1 v1))) ∧ (¬ 3 ≤ a2 → (((0 : Int) ≤ a2 ∧ a2 < 3) ∧ (R32 (a2 + 1) ∧ K_X10_program_52 (ui s 93 a2 0) (a2 + 1) Q))))) : K_X10_program_52 s a2 Q := by
  refine ⟨?_, trivial⟩
  intro hA hra2
  have h := h hA hra2
  refine q_iload_n eX10_program_52 rfl ?_
  refine q_ic (v := Int32.ofInt 3) eX10_program_53 rfl ?_
  refine q_cz_ge (tgt := 70) (a := a2) (b := 3) eX10_program_54 (by decide) (ofz hra2) (ofz (r32l rfl)) (fun c54 => ?_) (fun c54 => ?_)
  · have h := h.1 c54
    refine q_aload_n eX10_program_70 rfl ?_
    refine q_aload_n eX10_program_71 rfl ?_
    refine q_getR (c := 10) (n := 0) (k := 4) (a := 17) eX10_program_72 rfl (by decide) (by decide) fX10_23 rfl rfl ?_
    refine q_getR (c := 2) (n := 0) (k := 0) (a := 18) eX10_program_75 rfl (by decide) (by decide) fX10_36 rfl rfl ?_
    refine q_V1 (ci := 10) (n := 0) eX10_program_78 DX10_goOnWith lX10_129 rfl (by decide) rfl rfl rfl rfl (h.1 (by decide) hA) ?_
    rintro _ _ ⟨s1, v1, rfl, hA1, r1, rfl, h⟩
    exact q_iret eX10_program_81 rfl ⟨_, _, rfl, hA1, r1, rfl, h⟩
  · have h := h.2 c54
    refine q_aload_n eX10_program_57 rfl ?_
    refine q_getR (c := 10) (n := 0) (k := 15) (a := 93) eX10_program_58 rfl (by decide) (by decide) fX10_103 rfl rfl ?_
    refine q_iload_n eX10_program_61 rfl ?_
    refine q_ic (v := Int32.ofInt 0) eX10_program_62 rfl ?_
    have f2 := h.1
    have h := h.2
    refine z_zast (n := 3) eX10_program_63 rfl (ofz hra2) f2 (z01 (Or.inl rfl)) ?_
    have r3 := h.1
    have h := h.2
    refine z_inc (m := 1) eX10_program_64 rfl (Nat.le_of_ble_eq_true rfl) rfl ?_
    refine q_goto (tgt := 52) eX10_program_67 (by decide) ?_
    exact q_subL rfl (h.1 (ra_ui hA (r32l rfl)) r3)
set_option maxRecDepth 20000 in
theorem s_X10_program {s : ST} {Q : ST → Int → Prop} (h : RA s → (C_X7_readText (ui s 0 1 0) (s.1 0 1) (fun s1 v1 => (v1 = 0 ∨ v1 = 1) → ((¬ v1 = 0 → (C_X0_list 59 s1 (fun s2 => ((s2.1 59 1 = 0 → K_X10_program_52 s2 0 Q) ∧ (¬ s2.1 59 1 = 0 → (C_X7_refuseAskings s2 (s.1 0 1) (fun s3 => Q s3 (-1)))))))) ∧ (v1 = 0 → Q s1 (-1)))))) : C_X10_program s Q := by
  refine ⟨?_, trivial⟩
  intro hA
  have h := h hA
  refine q_enter (by decide) (Nat.le_of_ble_eq_true rfl) ?_
  refine q_aload_n eX10_program_0 rfl ?_
  refine q_getf (c := 10) (n := 0) (k := 1) (v := .int (Int32.ofInt (s.1 0 1))) eX10_program_1 rfl (by decide) (by decide) fX10_107 rfl ?_
  refine q_istore_n eX10_program_4 (Nat.le_of_ble_eq_true rfl) ?_
  refine q_aload_n eX10_program_5 rfl ?_
  refine q_ic (v := Int32.ofInt 0) eX10_program_6 rfl ?_
  refine z_putI (c := 10) (n := 0) (k := 1) (kz := 1) eX10_program_7 rfl (by decide) (by decide) fX10_107 rfl rfl rfl ?_
  refine q_aload_n eX10_program_10 rfl ?_
  refine q_getR (c := 10) (n := 0) (k := 6) (a := 46) eX10_program_11 rfl (by decide) (by decide) fX10_40 rfl rfl ?_
  refine q_iload_n eX10_program_14 rfl ?_
  refine q_V1 (ci := 7) (n := 0) eX10_program_15 DX7_readText lX10_115 rfl (by decide) rfl rfl rfl rfl (h.1 (ra_ui hA (r32l rfl)) (hA _ _)) ?_
  rintro _ _ ⟨s1, v1, rfl, hA1, b1, rfl, h⟩
  have h := h b1
  refine q_iz_ne (tgt := 23) (a := v1) eX10_program_18 (by decide) (ofz (r01 b1)) (fun c18 => ?_) (fun c18 => ?_)
  · have h := h.1 c18
    refine q_aload_n eX10_program_23 rfl ?_
    refine q_getR (c := 10) (n := 0) (k := 8) (a := 59) eX10_program_24 rfl (by decide) (by decide) fX10_53 rfl rfl ?_
    refine q_V0 (ci := 0) (n := 0) eX10_program_27 DX0_list lX10_119 rfl (by decide) rfl rfl rfl rfl (h.1 (by decide) hA1) ?_
    rintro _ _ ⟨s2, rfl, hA2, rfl, h⟩
    refine q_aload_n eX10_program_30 rfl ?_
    refine q_getR (c := 10) (n := 0) (k := 8) (a := 59) eX10_program_31 rfl (by decide) (by decide) fX10_53 rfl rfl ?_
    refine q_getf (c := 0) (n := 0) (k := 1) (v := .int (Int32.ofInt (s2.1 59 1))) eX10_program_34 rfl (by decide) (by decide) fX10_122 rfl ?_
    refine q_iz_eq (tgt := 50) (a := s2.1 59 1) eX10_program_37 (by decide) (ofz (hA2 _ _)) (fun c37 => ?_) (fun c37 => ?_)
    · have h := h.1 c37
      refine q_ic (v := Int32.ofInt 0) eX10_program_50 rfl ?_
      refine q_istore_n eX10_program_51 (Nat.le_of_ble_eq_true rfl) ?_
      exact q_subL rfl (h.1 hA2 (r32l rfl))
    · have h := h.2 c37
      refine q_aload_n eX10_program_40 rfl ?_
      refine q_getR (c := 10) (n := 0) (k := 6) (a := 46) eX10_program_41 rfl (by decide) (by decide) fX10_40 rfl rfl ?_
      refine q_iload_n eX10_program_44 rfl ?_
      refine q_V1 (ci := 7) (n := 0) eX10_program_45 DX7_refuseAskings lX10_126 rfl (by decide) rfl rfl rfl rfl (h.1 hA2 (hA _ _)) ?_
      rintro _ _ ⟨s3, rfl, hA3, rfl, h⟩
      refine q_ic (v := Int32.ofInt (-1)) eX10_program_48 rfl ?_
      exact q_iret eX10_program_49 rfl ⟨_, _, rfl, hA3, (r32l rfl), rfl, h⟩
  · have h := h.2 c18
    refine q_ic (v := Int32.ofInt (-1)) eX10_program_21 rfl ?_
    exact q_iret eX10_program_22 rfl ⟨_, _, rfl, hA1, (r32l rfl), rfl, h⟩
theorem eX10_fault_0 : decode cX10_fault 0 = .ok (.iload_n 1, 1) := by decide +kernel
theorem eX10_fault_1 : decode cX10_fault 1 = .ok (.ifCond .ne 11, 3) := by decide +kernel
theorem eX10_fault_4 : decode cX10_fault 4 = .ok (.aload_n 0, 1) := by decide +kernel
theorem eX10_fault_5 : decode cX10_fault 5 = .ok (.getfield 40, 3) := by decide +kernel
theorem eX10_fault_8 : decode cX10_fault 8 = .ok (.getfield 133, 3) := by decide +kernel
theorem eX10_fault_11 : decode cX10_fault 11 = .ok (.ireturn, 1) := by decide +kernel
theorem eX10_fault_12 : decode cX10_fault 12 = .ok (.iload_n 1, 1) := by decide +kernel
theorem eX10_fault_13 : decode cX10_fault 13 = .ok (.iconst 1, 1) := by decide +kernel
theorem eX10_fault_14 : decode cX10_fault 14 = .ok (.if_icmp .ne 13, 3) := by decide +kernel
theorem eX10_fault_17 : decode cX10_fault 17 = .ok (.aload_n 0, 1) := by decide +kernel
theorem eX10_fault_18 : decode cX10_fault 18 = .ok (.getfield 40, 3) := by decide +kernel
theorem eX10_fault_21 : decode cX10_fault 21 = .ok (.getfield 136, 3) := by decide +kernel
theorem eX10_fault_24 : decode cX10_fault 24 = .ok (.goto 4, 3) := by decide +kernel
theorem eX10_fault_27 : decode cX10_fault 27 = .ok (.iconst (-1), 1) := by decide +kernel
theorem eX10_fault_28 : decode cX10_fault 28 = .ok (.ireturn, 1) := by decide +kernel
def C_X10_fault (s : ST) (p : Int) (Q : ST → Int → Prop) : Prop := bx <| RA s → R32 p → q_met mX10_fault (qs layX s) [.ref 0, .int (Int32.ofInt p)] (PI layX Q)
theorem C_X10_fault.mono {s : ST} {p : Int} {Q Q' : ST → Int → Prop} (h : C_X10_fault s p Q) (hq : ∀ s v, Q s v → Q' s v) : C_X10_fault s p Q' := ⟨fun hA hrp => q_met.mono (h.1 hA hrp) (fun _ _ => PI.mono hq), trivial⟩
set_option maxRecDepth 20000 in
theorem s_X10_fault {s : ST} {p : Int} {Q : ST → Int → Prop} (h : RA s → R32 p → ((¬ p = 0 → ((¬ p = 1 → Q s (-1)) ∧ (p = 1 → Q s (s.1 46 1)))) ∧ (p = 0 → Q s (s.1 46 0)))) : C_X10_fault s p Q := by
  refine ⟨?_, trivial⟩
  intro hA hrp
  have h := h hA hrp
  refine q_enter (by decide) (Nat.le_of_ble_eq_true rfl) ?_
  refine q_iload_n eX10_fault_0 rfl ?_
  refine q_iz_ne (tgt := 12) (a := p) eX10_fault_1 (by decide) (ofz hrp) (fun c1 => ?_) (fun c1 => ?_)
  · have h := h.1 c1
    refine q_iload_n eX10_fault_12 rfl ?_
    refine q_ic (v := Int32.ofInt 1) eX10_fault_13 rfl ?_
    refine q_cz_ne (tgt := 27) (a := p) (b := 1) eX10_fault_14 (by decide) (ofz hrp) (ofz (r32l rfl)) (fun c14 => ?_) (fun c14 => ?_)
    · have h := h.1 c14
      refine q_ic (v := Int32.ofInt (-1)) eX10_fault_27 rfl ?_
      exact q_iret eX10_fault_28 rfl ⟨_, _, rfl, hA, (r32l rfl), rfl, h⟩
    · have h := h.2 c14
      refine q_aload_n eX10_fault_17 rfl ?_
      refine q_getR (c := 10) (n := 0) (k := 6) (a := 46) eX10_fault_18 rfl (by decide) (by decide) fX10_40 rfl rfl ?_
      refine q_getf (c := 7) (n := 0) (k := 1) (v := .int (Int32.ofInt (s.1 46 1))) eX10_fault_21 rfl (by decide) (by decide) fX10_136 rfl ?_
      refine q_goto (tgt := 28) eX10_fault_24 (by decide) ?_
      exact q_iret eX10_fault_28 rfl ⟨_, _, rfl, hA, (hA _ _), rfl, h⟩
  · have h := h.2 c1
    refine q_aload_n eX10_fault_4 rfl ?_
    refine q_getR (c := 10) (n := 0) (k := 6) (a := 46) eX10_fault_5 rfl (by decide) (by decide) fX10_40 rfl rfl ?_
    refine q_getf (c := 7) (n := 0) (k := 0) (v := .int (Int32.ofInt (s.1 46 0))) eX10_fault_8 rfl (by decide) (by decide) fX10_133 rfl ?_
    exact q_iret eX10_fault_11 rfl ⟨_, _, rfl, hA, (hA _ _), rfl, h⟩
def F_X10_fault (s : ST) (p : Int) : Int := (if p = 0 then s.1 46 0 else (if p = 1 then s.1 46 1 else (-1)))
theorem w_X10_fault {s : ST} {p : Int} : C_X10_fault s p (fun s' v => s' = s ∧ v = F_X10_fault s p) := by
  refine s_X10_fault (fun hA hrp => ?_)
  refine ⟨fun e0 => ?_, fun e0 => ?_⟩
  · refine ⟨fun e1 => ?_, fun e1 => ?_⟩
    · exact ⟨rfl, by unfold F_X10_fault; rw [if_neg e0, if_neg e1]⟩
    · exact ⟨rfl, by unfold F_X10_fault; rw [if_neg e0, if_pos e1]⟩
  · exact ⟨rfl, by unfold F_X10_fault; rw [if_pos e0]⟩
theorem p_X10_fault {s : ST} {p : Int} : RA s → R32 p → q_met mX10_fault (qs layX s) [.ref 0, .int (Int32.ofInt p)] (fun σ r => R32 (F_X10_fault s p) ∧ σ = qs layX s ∧ r = some (.int (Int32.ofInt (F_X10_fault s p)))) := fun hA hrp => q_met.mono ((w_X10_fault).1 hA hrp) (by
  rintro _ _ ⟨s1, v1, rfl, h1, h2, rfl, rfl, rfl⟩
  exact ⟨h2, rfl, rfl⟩)
theorem eX10_place_0 : decode cX10_place 0 = .ok (.aload_n 0, 1) := by decide +kernel
theorem eX10_place_1 : decode cX10_place 1 = .ok (.getfield 16, 3) := by decide +kernel
theorem eX10_place_4 : decode cX10_place 4 = .ok (.iload_n 1, 1) := by decide +kernel
theorem eX10_place_5 : decode cX10_place 5 = .ok (.invokevirtual 139, 3) := by decide +kernel
theorem eX10_place_8 : decode cX10_place 8 = .ok (.ifCond .ne 5, 3) := by decide +kernel
theorem eX10_place_11 : decode cX10_place 11 = .ok (.iconst (-1), 1) := by decide +kernel
theorem eX10_place_12 : decode cX10_place 12 = .ok (.ireturn, 1) := by decide +kernel
theorem eX10_place_13 : decode cX10_place 13 = .ok (.iload_n 2, 1) := by decide +kernel
theorem eX10_place_14 : decode cX10_place 14 = .ok (.tableswitch 70 0 3 #[30, 40, 50, 60], 30) := by decide +kernel
theorem eX10_place_44 : decode cX10_place 44 = .ok (.aload_n 0, 1) := by decide +kernel
theorem eX10_place_45 : decode cX10_place 45 = .ok (.getfield 16, 3) := by decide +kernel
theorem eX10_place_48 : decode cX10_place 48 = .ok (.getfield 142, 3) := by decide +kernel
theorem eX10_place_51 : decode cX10_place 51 = .ok (.iload_n 1, 1) := by decide +kernel
theorem eX10_place_52 : decode cX10_place 52 = .ok (.iaload, 1) := by decide +kernel
theorem eX10_place_53 : decode cX10_place 53 = .ok (.ireturn, 1) := by decide +kernel
theorem eX10_place_54 : decode cX10_place 54 = .ok (.aload_n 0, 1) := by decide +kernel
theorem eX10_place_55 : decode cX10_place 55 = .ok (.getfield 16, 3) := by decide +kernel
theorem eX10_place_58 : decode cX10_place 58 = .ok (.getfield 146, 3) := by decide +kernel
theorem eX10_place_61 : decode cX10_place 61 = .ok (.iload_n 1, 1) := by decide +kernel
theorem eX10_place_62 : decode cX10_place 62 = .ok (.iaload, 1) := by decide +kernel
theorem eX10_place_63 : decode cX10_place 63 = .ok (.ireturn, 1) := by decide +kernel
theorem eX10_place_64 : decode cX10_place 64 = .ok (.aload_n 0, 1) := by decide +kernel
theorem eX10_place_65 : decode cX10_place 65 = .ok (.getfield 16, 3) := by decide +kernel
theorem eX10_place_68 : decode cX10_place 68 = .ok (.getfield 149, 3) := by decide +kernel
theorem eX10_place_71 : decode cX10_place 71 = .ok (.iload_n 1, 1) := by decide +kernel
theorem eX10_place_72 : decode cX10_place 72 = .ok (.iaload, 1) := by decide +kernel
theorem eX10_place_73 : decode cX10_place 73 = .ok (.ireturn, 1) := by decide +kernel
theorem eX10_place_74 : decode cX10_place 74 = .ok (.aload_n 0, 1) := by decide +kernel
theorem eX10_place_75 : decode cX10_place 75 = .ok (.getfield 16, 3) := by decide +kernel
theorem eX10_place_78 : decode cX10_place 78 = .ok (.getfield 152, 3) := by decide +kernel
theorem eX10_place_81 : decode cX10_place 81 = .ok (.iload_n 1, 1) := by decide +kernel
theorem eX10_place_82 : decode cX10_place 82 = .ok (.iaload, 1) := by decide +kernel
theorem eX10_place_83 : decode cX10_place 83 = .ok (.ireturn, 1) := by decide +kernel
theorem eX10_place_84 : decode cX10_place 84 = .ok (.iconst (-1), 1) := by decide +kernel
theorem eX10_place_85 : decode cX10_place 85 = .ok (.ireturn, 1) := by decide +kernel
def C_X10_place (s : ST) (p : Int) (q : Int) (Q : ST → Int → Prop) : Prop := bx <| RA s → R32 p → R32 q → q_met mX10_place (qs layX s) [.ref 0, .int (Int32.ofInt p), .int (Int32.ofInt q)] (PI layX Q)
theorem C_X10_place.mono {s : ST} {p : Int} {q : Int} {Q Q' : ST → Int → Prop} (h : C_X10_place s p q Q) (hq : ∀ s v, Q s v → Q' s v) : C_X10_place s p q Q' := ⟨fun hA hrp hrq => q_met.mono (h.1 hA hrp hrq) (fun _ _ => PI.mono hq), trivial⟩
set_option maxRecDepth 20000 in
theorem s_X10_place {s : ST} {p : Int} {q : Int} {Q : ST → Int → Prop} (h : RA s → R32 p → R32 q → (((¬ p < 0 ∧ (¬ s.1 2 1 ≤ p ∧ ¬ 40 ≤ p)) → ((q = 0 → (((0 : Int) ≤ p ∧ p < 40) ∧ Q s (s.1 5 p))) ∧ (q = 1 → (((0 : Int) ≤ p ∧ p < 40) ∧ Q s (s.1 6 p))) ∧ (q = 2 → (((0 : Int) ≤ p ∧ p < 40) ∧ Q s (s.1 7 p))) ∧ (q = 3 → (((0 : Int) ≤ p ∧ p < 40) ∧ Q s (s.1 8 p))) ∧ ((q < 0 ∨ 3 < q) → Q s (-1)))) ∧ (¬ (¬ p < 0 ∧ (¬ s.1 2 1 ≤ p ∧ ¬ 40 ≤ p)) → Q s (-1)))) : C_X10_place s p q Q := by
  refine ⟨?_, trivial⟩
  intro hA hrp hrq
  have h := h hA hrp hrq
  refine q_enter (by decide) (Nat.le_of_ble_eq_true rfl) ?_
  refine q_aload_n eX10_place_0 rfl ?_
  refine q_getR (c := 10) (n := 0) (k := 3) (a := 2) eX10_place_1 rfl (by decide) (by decide) fX10_16 rfl rfl ?_
  refine q_iload_n eX10_place_4 rfl ?_
  refine q_V1 (ci := 9) (n := 0) eX10_place_5 DX9_has lX10_139 rfl (by decide) rfl rfl rfl rfl (p_X9_has (by decide) hA hrp) ?_
  rintro _ _ ⟨b1, rfl, rfl⟩
  refine q_iz_ne (tgt := 13) (a := (F_X9_has 2 s p)) eX10_place_8 (by decide) (ofz (r01 b1)) (fun c8 => ?_) (fun c8 => ?_)
  · have h := h.1 (n_X9_has.mp c8)
    refine q_iload_n eX10_place_13 rfl ?_
    refine q_tab4 44 54 64 74 84 eX10_place_14 rfl rfl (by decide) (z := q) (ofz hrq) (fun c14 => ?_) (fun c14 => ?_) (fun c14 => ?_) (fun c14 => ?_) (fun c14 => ?_)
    · have h := h.1 c14
      refine q_aload_n eX10_place_44 rfl ?_
      refine q_getR (c := 10) (n := 0) (k := 3) (a := 2) eX10_place_45 rfl (by decide) (by decide) fX10_16 rfl rfl ?_
      refine q_getR (c := 9) (n := 0) (k := 5) (a := 5) eX10_place_48 rfl (by decide) (by decide) fX10_142 rfl rfl ?_
      refine q_iload_n eX10_place_51 rfl ?_
      have f2 := h.1
      have h := h.2
      refine z_iald (n := 40) eX10_place_52 rfl (ofz hrp) f2 ?_
      refine q_topI (v := Int32.ofInt (s.1 5 p)) rfl ?_
      exact q_iret eX10_place_53 rfl ⟨_, _, rfl, hA, (hA _ _), rfl, h⟩
    · have h := h.2.1 c14
      refine q_aload_n eX10_place_54 rfl ?_
      refine q_getR (c := 10) (n := 0) (k := 3) (a := 2) eX10_place_55 rfl (by decide) (by decide) fX10_16 rfl rfl ?_
      refine q_getR (c := 9) (n := 0) (k := 6) (a := 6) eX10_place_58 rfl (by decide) (by decide) fX10_146 rfl rfl ?_
      refine q_iload_n eX10_place_61 rfl ?_
      have f3 := h.1
      have h := h.2
      refine z_iald (n := 40) eX10_place_62 rfl (ofz hrp) f3 ?_
      refine q_topI (v := Int32.ofInt (s.1 6 p)) rfl ?_
      exact q_iret eX10_place_63 rfl ⟨_, _, rfl, hA, (hA _ _), rfl, h⟩
    · have h := h.2.2.1 c14
      refine q_aload_n eX10_place_64 rfl ?_
      refine q_getR (c := 10) (n := 0) (k := 3) (a := 2) eX10_place_65 rfl (by decide) (by decide) fX10_16 rfl rfl ?_
      refine q_getR (c := 9) (n := 0) (k := 7) (a := 7) eX10_place_68 rfl (by decide) (by decide) fX10_149 rfl rfl ?_
      refine q_iload_n eX10_place_71 rfl ?_
      have f4 := h.1
      have h := h.2
      refine z_iald (n := 40) eX10_place_72 rfl (ofz hrp) f4 ?_
      refine q_topI (v := Int32.ofInt (s.1 7 p)) rfl ?_
      exact q_iret eX10_place_73 rfl ⟨_, _, rfl, hA, (hA _ _), rfl, h⟩
    · have h := h.2.2.2.1 c14
      refine q_aload_n eX10_place_74 rfl ?_
      refine q_getR (c := 10) (n := 0) (k := 3) (a := 2) eX10_place_75 rfl (by decide) (by decide) fX10_16 rfl rfl ?_
      refine q_getR (c := 9) (n := 0) (k := 8) (a := 8) eX10_place_78 rfl (by decide) (by decide) fX10_152 rfl rfl ?_
      refine q_iload_n eX10_place_81 rfl ?_
      have f5 := h.1
      have h := h.2
      refine z_iald (n := 40) eX10_place_82 rfl (ofz hrp) f5 ?_
      refine q_topI (v := Int32.ofInt (s.1 8 p)) rfl ?_
      exact q_iret eX10_place_83 rfl ⟨_, _, rfl, hA, (hA _ _), rfl, h⟩
    · have h := h.2.2.2.2 c14
      refine q_ic (v := Int32.ofInt (-1)) eX10_place_84 rfl ?_
      exact q_iret eX10_place_85 rfl ⟨_, _, rfl, hA, (r32l rfl), rfl, h⟩
  · have h := h.2 (fun q => n_X9_has.mpr q c8)
    refine q_ic (v := Int32.ofInt (-1)) eX10_place_11 rfl ?_
    exact q_iret eX10_place_12 rfl ⟨_, _, rfl, hA, (r32l rfl), rfl, h⟩
def F_X10_place (s : ST) (p : Int) (q : Int) : Int := (if (¬ p < 0 ∧ (¬ s.1 2 1 ≤ p ∧ ¬ 40 ≤ p)) then (if q = 0 then s.1 5 p else (if q = 1 then s.1 6 p else (if q = 2 then s.1 7 p else (if q = 3 then s.1 8 p else (-1))))) else (-1))
abbrev P_X10_place (s : ST) (p : Int) (q : Int) : Prop := ((¬ p < 0 ∧ (¬ s.1 2 1 ≤ p ∧ ¬ 40 ≤ p)) → ((q = 0 → ((0 : Int) ≤ p ∧ p < 40)) ∧ (q = 1 → ((0 : Int) ≤ p ∧ p < 40)) ∧ (q = 2 → ((0 : Int) ≤ p ∧ p < 40)) ∧ (q = 3 → ((0 : Int) ≤ p ∧ p < 40))))
theorem w_X10_place {s : ST} {p : Int} {q : Int} (h : P_X10_place s p q) : C_X10_place s p q (fun s' v => s' = s ∧ v = F_X10_place s p q) := by
  refine s_X10_place (fun hA hrp hrq => ?_)
  unfold P_X10_place at h
  refine ⟨fun e0 => ?_, fun e0 => ?_⟩
  · have h := h e0
    refine ⟨fun e1 => ?_, fun e1 => ?_, fun e1 => ?_, fun e1 => ?_, fun e1 => ?_⟩
    · have h := h.1 e1
      refine ⟨h, ?_⟩
      exact ⟨rfl, by unfold F_X10_place; rw [if_pos e0, if_pos e1]⟩
    · have h := h.2.1 e1
      refine ⟨h, ?_⟩
      exact ⟨rfl, by unfold F_X10_place; rw [if_pos e0, if_neg (by omega), if_pos e1]⟩
    · have h := h.2.2.1 e1
      refine ⟨h, ?_⟩
      exact ⟨rfl, by unfold F_X10_place; rw [if_pos e0, if_neg (by omega), if_neg (by omega), if_pos e1]⟩
    · have h := h.2.2.2 e1
      refine ⟨h, ?_⟩
      exact ⟨rfl, by unfold F_X10_place; rw [if_pos e0, if_neg (by omega), if_neg (by omega), if_neg (by omega), if_pos e1]⟩
    · exact ⟨rfl, by unfold F_X10_place; rw [if_pos e0, if_neg (by omega), if_neg (by omega), if_neg (by omega), if_neg (by omega)]⟩
  · exact ⟨rfl, by unfold F_X10_place; rw [if_neg e0]⟩
theorem p_X10_place {s : ST} {p : Int} {q : Int} (h : P_X10_place s p q) : RA s → R32 p → R32 q → q_met mX10_place (qs layX s) [.ref 0, .int (Int32.ofInt p), .int (Int32.ofInt q)] (fun σ r => R32 (F_X10_place s p q) ∧ σ = qs layX s ∧ r = some (.int (Int32.ofInt (F_X10_place s p q)))) := fun hA hrp hrq => q_met.mono ((w_X10_place h).1 hA hrp hrq) (by
  rintro _ _ ⟨s1, v1, rfl, h1, h2, rfl, rfl, rfl⟩
  exact ⟨h2, rfl, rfl⟩)
theorem eX10_fits_0 : decode cX10_fits 0 = .ok (.aload_n 0, 1) := by decide +kernel
theorem eX10_fits_1 : decode cX10_fits 1 = .ok (.getfield 49, 3) := by decide +kernel
theorem eX10_fits_4 : decode cX10_fits 4 = .ok (.invokevirtual 155, 3) := by decide +kernel
theorem eX10_fits_7 : decode cX10_fits 7 = .ok (.ifCond .eq 7, 3) := by decide +kernel
theorem eX10_fits_10 : decode cX10_fits 10 = .ok (.iconst 1, 1) := by decide +kernel
theorem eX10_fits_11 : decode cX10_fits 11 = .ok (.goto 4, 3) := by decide +kernel
theorem eX10_fits_14 : decode cX10_fits 14 = .ok (.iconst 0, 1) := by decide +kernel
theorem eX10_fits_15 : decode cX10_fits 15 = .ok (.ireturn, 1) := by decide +kernel
def C_X10_fits (s : ST) (Q : ST → Int → Prop) : Prop := bx <| RA s → q_met mX10_fits (qs layX s) [.ref 0] (PI layX Q)
theorem C_X10_fits.mono {s : ST} {Q Q' : ST → Int → Prop} (h : C_X10_fits s Q) (hq : ∀ s v, Q s v → Q' s v) : C_X10_fits s Q' := ⟨fun hA => q_met.mono (h.1 hA) (fun _ _ => PI.mono hq), trivial⟩
set_option maxRecDepth 20000 in
theorem s_X10_fits {s : ST} {Q : ST → Int → Prop} (h : RA s → (C_X0_allFit 51 s (fun s1 v1 => (v1 = 0 ∨ v1 = 1) → ((v1 = 0 → Q s1 0) ∧ (¬ v1 = 0 → Q s1 1))))) : C_X10_fits s Q := by
  refine ⟨?_, trivial⟩
  intro hA
  have h := h hA
  refine q_enter (by decide) (Nat.le_of_ble_eq_true rfl) ?_
  refine q_aload_n eX10_fits_0 rfl ?_
  refine q_getR (c := 10) (n := 0) (k := 7) (a := 51) eX10_fits_1 rfl (by decide) (by decide) fX10_49 rfl rfl ?_
  refine q_V0 (ci := 0) (n := 0) eX10_fits_4 DX0_allFit lX10_155 rfl (by decide) rfl rfl rfl rfl (h.1 (by decide) hA) ?_
  rintro _ _ ⟨s1, v1, rfl, hA1, b1, rfl, h⟩
  have h := h b1
  refine q_iz_eq (tgt := 14) (a := v1) eX10_fits_7 (by decide) (ofz (r01 b1)) (fun c7 => ?_) (fun c7 => ?_)
  · have h := h.1 c7
    refine q_ic (v := Int32.ofInt 0) eX10_fits_14 rfl ?_
    exact q_iret eX10_fits_15 rfl ⟨_, _, rfl, hA1, (r32l rfl), rfl, h⟩
  · have h := h.2 c7
    refine q_ic (v := Int32.ofInt 1) eX10_fits_10 rfl ?_
    refine q_goto (tgt := 15) eX10_fits_11 (by decide) ?_
    exact q_iret eX10_fits_15 rfl ⟨_, _, rfl, hA1, (r32l rfl), rfl, h⟩
theorem eX10_kind_0 : decode cX10_kind 0 = .ok (.aload_n 0, 1) := by decide +kernel
theorem eX10_kind_1 : decode cX10_kind 1 = .ok (.getfield 16, 3) := by decide +kernel
theorem eX10_kind_4 : decode cX10_kind 4 = .ok (.iload_n 1, 1) := by decide +kernel
theorem eX10_kind_5 : decode cX10_kind 5 = .ok (.invokevirtual 139, 3) := by decide +kernel
theorem eX10_kind_8 : decode cX10_kind 8 = .ok (.ifCond .eq 20, 3) := by decide +kernel
theorem eX10_kind_11 : decode cX10_kind 11 = .ok (.aload_n 0, 1) := by decide +kernel
theorem eX10_kind_12 : decode cX10_kind 12 = .ok (.getfield 49, 3) := by decide +kernel
theorem eX10_kind_15 : decode cX10_kind 15 = .ok (.aload_n 0, 1) := by decide +kernel
theorem eX10_kind_16 : decode cX10_kind 16 = .ok (.getfield 16, 3) := by decide +kernel
theorem eX10_kind_19 : decode cX10_kind 19 = .ok (.invokevirtual 159, 3) := by decide +kernel
theorem eX10_kind_22 : decode cX10_kind 22 = .ok (.invokevirtual 163, 3) := by decide +kernel
theorem eX10_kind_25 : decode cX10_kind 25 = .ok (.ifCond .eq 5, 3) := by decide +kernel
theorem eX10_kind_28 : decode cX10_kind 28 = .ok (.iconst (-1), 1) := by decide +kernel
theorem eX10_kind_29 : decode cX10_kind 29 = .ok (.ireturn, 1) := by decide +kernel
theorem eX10_kind_30 : decode cX10_kind 30 = .ok (.aload_n 0, 1) := by decide +kernel
theorem eX10_kind_31 : decode cX10_kind 31 = .ok (.getfield 30, 3) := by decide +kernel
theorem eX10_kind_34 : decode cX10_kind 34 = .ok (.aload_n 0, 1) := by decide +kernel
theorem eX10_kind_35 : decode cX10_kind 35 = .ok (.getfield 49, 3) := by decide +kernel
theorem eX10_kind_38 : decode cX10_kind 38 = .ok (.iload_n 1, 1) := by decide +kernel
theorem eX10_kind_39 : decode cX10_kind 39 = .ok (.invokevirtual 167, 3) := by decide +kernel
theorem eX10_kind_42 : decode cX10_kind 42 = .ok (.iload_n 2, 1) := by decide +kernel
theorem eX10_kind_43 : decode cX10_kind 43 = .ok (.invokevirtual 171, 3) := by decide +kernel
theorem eX10_kind_46 : decode cX10_kind 46 = .ok (.ireturn, 1) := by decide +kernel
def C_X10_kind (s : ST) (p : Int) (q : Int) (Q : ST → Int → Prop) : Prop := bx <| RA s → R32 p → R32 q → q_met mX10_kind (qs layX s) [.ref 0, .int (Int32.ofInt p), .int (Int32.ofInt q)] (PI layX Q)
theorem C_X10_kind.mono {s : ST} {p : Int} {q : Int} {Q Q' : ST → Int → Prop} (h : C_X10_kind s p q Q) (hq : ∀ s v, Q s v → Q' s v) : C_X10_kind s p q Q' := ⟨fun hA hrp hrq => q_met.mono (h.1 hA hrp hrq) (fun _ _ => PI.mono hq), trivial⟩
set_option maxRecDepth 20000 in
theorem s_X10_kind {s : ST} {p : Int} {q : Int} {Q : ST → Int → Prop} (h : RA s → R32 p → R32 q → ((¬ (¬ p < 0 ∧ (¬ s.1 2 1 ≤ p ∧ ¬ 40 ≤ p)) → Q s (-1)) ∧ ((¬ p < 0 ∧ (¬ s.1 2 1 ≤ p ∧ ¬ 40 ≤ p)) → (C_X0_clashOf 51 s ((lshl 1 (s.1 2 1)) - 1) (fun s3 v3 => (v3 = 0 ∨ v3 = 1) → ((v3 = 0 → (P_X0_nodeOf 51 s3 p ∧ (C_X4_numberAt s3 (F_X0_nodeOf 51 s3 p) q (fun s6 v6 => Q s6 v6)))) ∧ (¬ v3 = 0 → Q s3 (-1)))))))) : C_X10_kind s p q Q := by
  refine ⟨?_, trivial⟩
  intro hA hrp hrq
  have h := h hA hrp hrq
  refine q_enter (by decide) (Nat.le_of_ble_eq_true rfl) ?_
  refine q_aload_n eX10_kind_0 rfl ?_
  refine q_getR (c := 10) (n := 0) (k := 3) (a := 2) eX10_kind_1 rfl (by decide) (by decide) fX10_16 rfl rfl ?_
  refine q_iload_n eX10_kind_4 rfl ?_
  refine q_V1 (ci := 9) (n := 0) eX10_kind_5 DX9_has lX10_139 rfl (by decide) rfl rfl rfl rfl (p_X9_has (by decide) hA hrp) ?_
  rintro _ _ ⟨b1, rfl, rfl⟩
  refine q_iz_eq (tgt := 28) (a := (F_X9_has 2 s p)) eX10_kind_8 (by decide) (ofz (r01 b1)) (fun c8 => ?_) (fun c8 => ?_)
  · have h := h.1 (fun q => n_X9_has.mpr q c8)
    refine q_ic (v := Int32.ofInt (-1)) eX10_kind_28 rfl ?_
    exact q_iret eX10_kind_29 rfl ⟨_, _, rfl, hA, (r32l rfl), rfl, h⟩
  · have h := h.2 (n_X9_has.mp c8)
    refine q_aload_n eX10_kind_11 rfl ?_
    refine q_getR (c := 10) (n := 0) (k := 7) (a := 51) eX10_kind_12 rfl (by decide) (by decide) fX10_49 rfl rfl ?_
    refine q_aload_n eX10_kind_15 rfl ?_
    refine q_getR (c := 10) (n := 0) (k := 3) (a := 2) eX10_kind_16 rfl (by decide) (by decide) fX10_16 rfl rfl ?_
    refine q_V0 (ci := 9) (n := 0) eX10_kind_19 DX9_all lX10_159 rfl (by decide) rfl rfl rfl rfl (p_X9_all (by decide) hA) ?_
    rintro _ _ ⟨rfl, rfl⟩
    refine q_V1 (ci := 0) (n := 0) eX10_kind_22 DX0_clashOf lX10_163 rfl (by decide) rfl rfl rfl rfl (h.1 (by decide) hA) ?_
    rintro _ _ ⟨s3, v3, rfl, hA3, b3, rfl, h⟩
    have h := h b3
    refine q_iz_eq (tgt := 30) (a := v3) eX10_kind_25 (by decide) (ofz (r01 b3)) (fun c25 => ?_) (fun c25 => ?_)
    · have h := h.1 c25
      refine q_aload_n eX10_kind_30 rfl ?_
      refine q_getR (c := 10) (n := 0) (k := 5) (a := 38) eX10_kind_31 rfl (by decide) (by decide) fX10_30 rfl rfl ?_
      refine q_aload_n eX10_kind_34 rfl ?_
      refine q_getR (c := 10) (n := 0) (k := 7) (a := 51) eX10_kind_35 rfl (by decide) (by decide) fX10_49 rfl rfl ?_
      refine q_iload_n eX10_kind_38 rfl ?_
      have f5 := h.1
      have h := h.2
      refine q_V1 (ci := 0) (n := 0) eX10_kind_39 DX0_nodeOf lX10_167 rfl (by decide) rfl rfl rfl rfl (p_X0_nodeOf f5 (by decide) hA3 hrp) ?_
      rintro _ _ ⟨r4, rfl, rfl⟩
      refine q_iload_n eX10_kind_42 rfl ?_
      refine q_V2 (ci := 4) (n := 0) eX10_kind_43 DX4_numberAt lX10_171 rfl (by decide) rfl rfl rfl rfl (h.1 hA3 r4 hrq) ?_
      rintro _ _ ⟨s6, v6, rfl, hA6, r6, rfl, h⟩
      exact q_iret eX10_kind_46 rfl ⟨_, _, rfl, hA6, r6, rfl, h⟩
    · have h := h.2 c25
      refine q_ic (v := Int32.ofInt (-1)) eX10_kind_28 rfl ?_
      exact q_iret eX10_kind_29 rfl ⟨_, _, rfl, hA3, (r32l rfl), rfl, h⟩
theorem eX10_clashes_0 : decode cX10_clashes 0 = .ok (.aload_n 0, 1) := by decide +kernel
theorem eX10_clashes_1 : decode cX10_clashes 1 = .ok (.getfield 16, 3) := by decide +kernel
theorem eX10_clashes_4 : decode cX10_clashes 4 = .ok (.lload_n 1, 1) := by decide +kernel
theorem eX10_clashes_5 : decode cX10_clashes 5 = .ok (.invokevirtual 175, 3) := by decide +kernel
theorem eX10_clashes_8 : decode cX10_clashes 8 = .ok (.ifCond .ne 5, 3) := by decide +kernel
theorem eX10_clashes_11 : decode cX10_clashes 11 = .ok (.iconst (-1), 1) := by decide +kernel
theorem eX10_clashes_12 : decode cX10_clashes 12 = .ok (.ireturn, 1) := by decide +kernel
theorem eX10_clashes_13 : decode cX10_clashes 13 = .ok (.aload_n 0, 1) := by decide +kernel
theorem eX10_clashes_14 : decode cX10_clashes 14 = .ok (.getfield 49, 3) := by decide +kernel
theorem eX10_clashes_17 : decode cX10_clashes 17 = .ok (.lload_n 1, 1) := by decide +kernel
theorem eX10_clashes_18 : decode cX10_clashes 18 = .ok (.invokevirtual 163, 3) := by decide +kernel
theorem eX10_clashes_21 : decode cX10_clashes 21 = .ok (.ifCond .eq 7, 3) := by decide +kernel
theorem eX10_clashes_24 : decode cX10_clashes 24 = .ok (.iconst 1, 1) := by decide +kernel
theorem eX10_clashes_25 : decode cX10_clashes 25 = .ok (.goto 4, 3) := by decide +kernel
theorem eX10_clashes_28 : decode cX10_clashes 28 = .ok (.iconst 0, 1) := by decide +kernel
theorem eX10_clashes_29 : decode cX10_clashes 29 = .ok (.ireturn, 1) := by decide +kernel
def C_X10_clashes (s : ST) (p : Int64) (Q : ST → Int → Prop) : Prop := bx <| RA s → q_met mX10_clashes (qs layX s) [.ref 0, .long p] (PI layX Q)
theorem C_X10_clashes.mono {s : ST} {p : Int64} {Q Q' : ST → Int → Prop} (h : C_X10_clashes s p Q) (hq : ∀ s v, Q s v → Q' s v) : C_X10_clashes s p Q' := ⟨fun hA => q_met.mono (h.1 hA) (fun _ _ => PI.mono hq), trivial⟩
set_option maxRecDepth 20000 in
theorem s_X10_clashes {s : ST} {p : Int64} {Q : ST → Int → Prop} (h : RA s → (((p &&& (((lshl 1 (s.1 2 1)) - 1) ^^^ (-1))) = 0 → (C_X0_clashOf 51 s p (fun s2 v2 => (v2 = 0 ∨ v2 = 1) → ((v2 = 0 → Q s2 0) ∧ (¬ v2 = 0 → Q s2 1))))) ∧ (¬ ((p &&& (((lshl 1 (s.1 2 1)) - 1) ^^^ (-1))) = 0) → Q s (-1)))) : C_X10_clashes s p Q := by
  refine ⟨?_, trivial⟩
  intro hA
  have h := h hA
  refine q_enter (by decide) (Nat.le_of_ble_eq_true rfl) ?_
  refine q_aload_n eX10_clashes_0 rfl ?_
  refine q_getR (c := 10) (n := 0) (k := 3) (a := 2) eX10_clashes_1 rfl (by decide) (by decide) fX10_16 rfl rfl ?_
  refine q_lload_n eX10_clashes_4 rfl ?_
  refine q_V1 (ci := 9) (n := 0) eX10_clashes_5 DX9_hasAll lX10_175 rfl (by decide) rfl rfl rfl rfl (p_X9_hasAll (by decide) hA) ?_
  rintro _ _ ⟨b1, rfl, rfl⟩
  refine q_iz_ne (tgt := 13) (a := (F_X9_hasAll 2 s p)) eX10_clashes_8 (by decide) (ofz (r01 b1)) (fun c8 => ?_) (fun c8 => ?_)
  · have h := h.1 (n_X9_hasAll.mp c8)
    refine q_aload_n eX10_clashes_13 rfl ?_
    refine q_getR (c := 10) (n := 0) (k := 7) (a := 51) eX10_clashes_14 rfl (by decide) (by decide) fX10_49 rfl rfl ?_
    refine q_lload_n eX10_clashes_17 rfl ?_
    refine q_V1 (ci := 0) (n := 0) eX10_clashes_18 DX0_clashOf lX10_163 rfl (by decide) rfl rfl rfl rfl (h.1 (by decide) hA) ?_
    rintro _ _ ⟨s2, v2, rfl, hA2, b2, rfl, h⟩
    have h := h b2
    refine q_iz_eq (tgt := 28) (a := v2) eX10_clashes_21 (by decide) (ofz (r01 b2)) (fun c21 => ?_) (fun c21 => ?_)
    · have h := h.1 c21
      refine q_ic (v := Int32.ofInt 0) eX10_clashes_28 rfl ?_
      exact q_iret eX10_clashes_29 rfl ⟨_, _, rfl, hA2, (r32l rfl), rfl, h⟩
    · have h := h.2 c21
      refine q_ic (v := Int32.ofInt 1) eX10_clashes_24 rfl ?_
      refine q_goto (tgt := 29) eX10_clashes_25 (by decide) ?_
      exact q_iret eX10_clashes_29 rfl ⟨_, _, rfl, hA2, (r32l rfl), rfl, h⟩
  · have h := h.2 (fun q => n_X9_hasAll.mpr q c8)
    refine q_ic (v := Int32.ofInt (-1)) eX10_clashes_11 rfl ?_
    exact q_iret eX10_clashes_12 rfl ⟨_, _, rfl, hA, (r32l rfl), rfl, h⟩
theorem eX10_core_0 : decode cX10_core 0 = .ok (.aload_n 0, 1) := by decide +kernel
theorem eX10_core_1 : decode cX10_core 1 = .ok (.getfield 49, 3) := by decide +kernel
theorem eX10_core_4 : decode cX10_core 4 = .ok (.invokevirtual 178, 3) := by decide +kernel
theorem eX10_core_7 : decode cX10_core 7 = .ok (.lreturn, 1) := by decide +kernel
def C_X10_core (s : ST) (Q : ST → Int64 → Prop) : Prop := bx <| RA s → q_met mX10_core (qs layX s) [.ref 0] (PL layX Q)
theorem C_X10_core.mono {s : ST} {Q Q' : ST → Int64 → Prop} (h : C_X10_core s Q) (hq : ∀ s v, Q s v → Q' s v) : C_X10_core s Q' := ⟨fun hA => q_met.mono (h.1 hA) (fun _ _ => PL.mono hq), trivial⟩
set_option maxRecDepth 20000 in
theorem s_X10_core {s : ST} {Q : ST → Int64 → Prop} (h : RA s → (C_X0_coreOfAll 51 s (fun s1 v1 => Q s1 v1))) : C_X10_core s Q := by
  refine ⟨?_, trivial⟩
  intro hA
  have h := h hA
  refine q_enter (by decide) (Nat.le_of_ble_eq_true rfl) ?_
  refine q_aload_n eX10_core_0 rfl ?_
  refine q_getR (c := 10) (n := 0) (k := 7) (a := 51) eX10_core_1 rfl (by decide) (by decide) fX10_49 rfl rfl ?_
  refine q_V0 (ci := 0) (n := 0) eX10_core_4 DX0_coreOfAll lX10_178 rfl (by decide) rfl rfl rfl rfl (h.1 (by decide) hA) ?_
  rintro _ _ ⟨s1, v1, rfl, hA1, rfl, h⟩
  exact q_lret eX10_core_7 rfl ⟨_, _, rfl, hA1, rfl, h⟩
theorem eX10_meets_0 : decode cX10_meets 0 = .ok (.aload_n 0, 1) := by decide +kernel
theorem eX10_meets_1 : decode cX10_meets 1 = .ok (.getfield 16, 3) := by decide +kernel
theorem eX10_meets_4 : decode cX10_meets 4 = .ok (.iload_n 1, 1) := by decide +kernel
theorem eX10_meets_5 : decode cX10_meets 5 = .ok (.invokevirtual 139, 3) := by decide +kernel
theorem eX10_meets_8 : decode cX10_meets 8 = .ok (.ifCond .eq 24, 3) := by decide +kernel
theorem eX10_meets_11 : decode cX10_meets 11 = .ok (.aload_n 0, 1) := by decide +kernel
theorem eX10_meets_12 : decode cX10_meets 12 = .ok (.getfield 16, 3) := by decide +kernel
theorem eX10_meets_15 : decode cX10_meets 15 = .ok (.iload_n 2, 1) := by decide +kernel
theorem eX10_meets_16 : decode cX10_meets 16 = .ok (.invokevirtual 139, 3) := by decide +kernel
theorem eX10_meets_19 : decode cX10_meets 19 = .ok (.ifCond .eq 13, 3) := by decide +kernel
theorem eX10_meets_22 : decode cX10_meets 22 = .ok (.aload_n 0, 1) := by decide +kernel
theorem eX10_meets_23 : decode cX10_meets 23 = .ok (.getfield 49, 3) := by decide +kernel
theorem eX10_meets_26 : decode cX10_meets 26 = .ok (.invokevirtual 155, 3) := by decide +kernel
theorem eX10_meets_29 : decode cX10_meets 29 = .ok (.ifCond .ne 5, 3) := by decide +kernel
theorem eX10_meets_32 : decode cX10_meets 32 = .ok (.iconst (-1), 1) := by decide +kernel
theorem eX10_meets_33 : decode cX10_meets 33 = .ok (.ireturn, 1) := by decide +kernel
theorem eX10_meets_34 : decode cX10_meets 34 = .ok (.aload_n 0, 1) := by decide +kernel
theorem eX10_meets_35 : decode cX10_meets 35 = .ok (.getfield 49, 3) := by decide +kernel
theorem eX10_meets_38 : decode cX10_meets 38 = .ok (.iload_n 1, 1) := by decide +kernel
theorem eX10_meets_39 : decode cX10_meets 39 = .ok (.iload_n 2, 1) := by decide +kernel
theorem eX10_meets_40 : decode cX10_meets 40 = .ok (.invokevirtual 181, 3) := by decide +kernel
theorem eX10_meets_43 : decode cX10_meets 43 = .ok (.ifCond .eq 7, 3) := by decide +kernel
theorem eX10_meets_46 : decode cX10_meets 46 = .ok (.iconst 1, 1) := by decide +kernel
theorem eX10_meets_47 : decode cX10_meets 47 = .ok (.goto 4, 3) := by decide +kernel
theorem eX10_meets_50 : decode cX10_meets 50 = .ok (.iconst 0, 1) := by decide +kernel
theorem eX10_meets_51 : decode cX10_meets 51 = .ok (.ireturn, 1) := by decide +kernel
def C_X10_meets (s : ST) (p : Int) (q : Int) (Q : ST → Int → Prop) : Prop := bx <| RA s → R32 p → R32 q → q_met mX10_meets (qs layX s) [.ref 0, .int (Int32.ofInt p), .int (Int32.ofInt q)] (PI layX Q)
theorem C_X10_meets.mono {s : ST} {p : Int} {q : Int} {Q Q' : ST → Int → Prop} (h : C_X10_meets s p q Q) (hq : ∀ s v, Q s v → Q' s v) : C_X10_meets s p q Q' := ⟨fun hA hrp hrq => q_met.mono (h.1 hA hrp hrq) (fun _ _ => PI.mono hq), trivial⟩
set_option maxRecDepth 20000 in
theorem s_X10_meets {s : ST} {p : Int} {q : Int} {Q : ST → Int → Prop} (h : RA s → R32 p → R32 q → ((¬ (¬ p < 0 ∧ (¬ s.1 2 1 ≤ p ∧ ¬ 40 ≤ p)) → Q s (-1)) ∧ ((¬ p < 0 ∧ (¬ s.1 2 1 ≤ p ∧ ¬ 40 ≤ p)) → ((¬ (¬ q < 0 ∧ (¬ s.1 2 1 ≤ q ∧ ¬ 40 ≤ q)) → Q s (-1)) ∧ ((¬ q < 0 ∧ (¬ s.1 2 1 ≤ q ∧ ¬ 40 ≤ q)) → (C_X0_allFit 51 s (fun s3 v3 => (v3 = 0 ∨ v3 = 1) → ((¬ v3 = 0 → (C_X0_meet 51 s3 p q (fun s4 v4 => (v4 = 0 ∨ v4 = 1) → ((v4 = 0 → Q s4 0) ∧ (¬ v4 = 0 → Q s4 1))))) ∧ (v3 = 0 → Q s3 (-1)))))))))) : C_X10_meets s p q Q := by
  refine ⟨?_, trivial⟩
  intro hA hrp hrq
  have h := h hA hrp hrq
  refine q_enter (by decide) (Nat.le_of_ble_eq_true rfl) ?_
  refine q_aload_n eX10_meets_0 rfl ?_
  refine q_getR (c := 10) (n := 0) (k := 3) (a := 2) eX10_meets_1 rfl (by decide) (by decide) fX10_16 rfl rfl ?_
  refine q_iload_n eX10_meets_4 rfl ?_
  refine q_V1 (ci := 9) (n := 0) eX10_meets_5 DX9_has lX10_139 rfl (by decide) rfl rfl rfl rfl (p_X9_has (by decide) hA hrp) ?_
  rintro _ _ ⟨b1, rfl, rfl⟩
  refine q_iz_eq (tgt := 32) (a := (F_X9_has 2 s p)) eX10_meets_8 (by decide) (ofz (r01 b1)) (fun c8 => ?_) (fun c8 => ?_)
  · have h := h.1 (fun q => n_X9_has.mpr q c8)
    refine q_ic (v := Int32.ofInt (-1)) eX10_meets_32 rfl ?_
    exact q_iret eX10_meets_33 rfl ⟨_, _, rfl, hA, (r32l rfl), rfl, h⟩
  · have h := h.2 (n_X9_has.mp c8)
    refine q_aload_n eX10_meets_11 rfl ?_
    refine q_getR (c := 10) (n := 0) (k := 3) (a := 2) eX10_meets_12 rfl (by decide) (by decide) fX10_16 rfl rfl ?_
    refine q_iload_n eX10_meets_15 rfl ?_
    refine q_V1 (ci := 9) (n := 0) eX10_meets_16 DX9_has lX10_139 rfl (by decide) rfl rfl rfl rfl (p_X9_has (by decide) hA hrq) ?_
    rintro _ _ ⟨b2, rfl, rfl⟩
    refine q_iz_eq (tgt := 32) (a := (F_X9_has 2 s q)) eX10_meets_19 (by decide) (ofz (r01 b2)) (fun c19 => ?_) (fun c19 => ?_)
    · have h := h.1 (fun q => n_X9_has.mpr q c19)
      refine q_ic (v := Int32.ofInt (-1)) eX10_meets_32 rfl ?_
      exact q_iret eX10_meets_33 rfl ⟨_, _, rfl, hA, (r32l rfl), rfl, h⟩
    · have h := h.2 (n_X9_has.mp c19)
      refine q_aload_n eX10_meets_22 rfl ?_
      refine q_getR (c := 10) (n := 0) (k := 7) (a := 51) eX10_meets_23 rfl (by decide) (by decide) fX10_49 rfl rfl ?_
      refine q_V0 (ci := 0) (n := 0) eX10_meets_26 DX0_allFit lX10_155 rfl (by decide) rfl rfl rfl rfl (h.1 (by decide) hA) ?_
      rintro _ _ ⟨s3, v3, rfl, hA3, b3, rfl, h⟩
      have h := h b3
      refine q_iz_ne (tgt := 34) (a := v3) eX10_meets_29 (by decide) (ofz (r01 b3)) (fun c29 => ?_) (fun c29 => ?_)
      · have h := h.1 c29
        refine q_aload_n eX10_meets_34 rfl ?_
        refine q_getR (c := 10) (n := 0) (k := 7) (a := 51) eX10_meets_35 rfl (by decide) (by decide) fX10_49 rfl rfl ?_
        refine q_iload_n eX10_meets_38 rfl ?_
        refine q_iload_n eX10_meets_39 rfl ?_
        refine q_V2 (ci := 0) (n := 0) eX10_meets_40 DX0_meet lX10_181 rfl (by decide) rfl rfl rfl rfl (h.1 (by decide) hA3 hrp hrq) ?_
        rintro _ _ ⟨s4, v4, rfl, hA4, b4, rfl, h⟩
        have h := h b4
        refine q_iz_eq (tgt := 50) (a := v4) eX10_meets_43 (by decide) (ofz (r01 b4)) (fun c43 => ?_) (fun c43 => ?_)
        · have h := h.1 c43
          refine q_ic (v := Int32.ofInt 0) eX10_meets_50 rfl ?_
          exact q_iret eX10_meets_51 rfl ⟨_, _, rfl, hA4, (r32l rfl), rfl, h⟩
        · have h := h.2 c43
          refine q_ic (v := Int32.ofInt 1) eX10_meets_46 rfl ?_
          refine q_goto (tgt := 51) eX10_meets_47 (by decide) ?_
          exact q_iret eX10_meets_51 rfl ⟨_, _, rfl, hA4, (r32l rfl), rfl, h⟩
      · have h := h.2 c29
        refine q_ic (v := Int32.ofInt (-1)) eX10_meets_32 rfl ?_
        exact q_iret eX10_meets_33 rfl ⟨_, _, rfl, hA3, (r32l rfl), rfl, h⟩
theorem eX10_cores_0 : decode cX10_cores 0 = .ok (.aload_n 0, 1) := by decide +kernel
theorem eX10_cores_1 : decode cX10_cores 1 = .ok (.getfield 16, 3) := by decide +kernel
theorem eX10_cores_4 : decode cX10_cores 4 = .ok (.getfield 185, 3) := by decide +kernel
theorem eX10_cores_7 : decode cX10_cores 7 = .ok (.bipush 12, 2) := by decide +kernel
theorem eX10_cores_9 : decode cX10_cores 9 = .ok (.if_icmp .le 6, 3) := by decide +kernel
theorem eX10_cores_12 : decode cX10_cores 12 = .ok (.bipush (-2), 2) := by decide +kernel
theorem eX10_cores_14 : decode cX10_cores 14 = .ok (.ireturn, 1) := by decide +kernel
theorem eX10_cores_15 : decode cX10_cores 15 = .ok (.aload_n 0, 1) := by decide +kernel
theorem eX10_cores_16 : decode cX10_cores 16 = .ok (.getfield 61, 3) := by decide +kernel
theorem eX10_cores_19 : decode cX10_cores 19 = .ok (.aload_n 0, 1) := by decide +kernel
theorem eX10_cores_20 : decode cX10_cores 20 = .ok (.getfield 16, 3) := by decide +kernel
theorem eX10_cores_23 : decode cX10_cores 23 = .ok (.getfield 185, 3) := by decide +kernel
theorem eX10_cores_26 : decode cX10_cores 26 = .ok (.invokevirtual 188, 3) := by decide +kernel
theorem eX10_cores_29 : decode cX10_cores 29 = .ok (.aload_n 0, 1) := by decide +kernel
theorem eX10_cores_30 : decode cX10_cores 30 = .ok (.getfield 61, 3) := by decide +kernel
theorem eX10_cores_33 : decode cX10_cores 33 = .ok (.getfield 191, 3) := by decide +kernel
theorem eX10_cores_36 : decode cX10_cores 36 = .ok (.ireturn, 1) := by decide +kernel
def C_X10_cores (s : ST) (Q : ST → Int → Prop) : Prop := bx <| RA s → q_met mX10_cores (qs layX s) [.ref 0] (PI layX Q)
theorem C_X10_cores.mono {s : ST} {Q Q' : ST → Int → Prop} (h : C_X10_cores s Q) (hq : ∀ s v, Q s v → Q' s v) : C_X10_cores s Q' := ⟨fun hA => q_met.mono (h.1 hA) (fun _ _ => PI.mono hq), trivial⟩
set_option maxRecDepth 20000 in
theorem s_X10_cores {s : ST} {Q : ST → Int → Prop} (h : RA s → ((s.1 2 1 ≤ 12 → (C_X5_find s (s.1 2 1) (fun s1 => Q s1 (s1.1 67 1)))) ∧ (¬ s.1 2 1 ≤ 12 → Q s (-2)))) : C_X10_cores s Q := by
  refine ⟨?_, trivial⟩
  intro hA
  have h := h hA
  refine q_enter (by decide) (Nat.le_of_ble_eq_true rfl) ?_
  refine q_aload_n eX10_cores_0 rfl ?_
  refine q_getR (c := 10) (n := 0) (k := 3) (a := 2) eX10_cores_1 rfl (by decide) (by decide) fX10_16 rfl rfl ?_
  refine q_getf (c := 9) (n := 0) (k := 1) (v := .int (Int32.ofInt (s.1 2 1))) eX10_cores_4 rfl (by decide) (by decide) fX10_185 rfl ?_
  refine q_bi (v := Int32.ofInt 12) eX10_cores_7 rfl ?_
  refine q_cz_le (tgt := 15) (a := s.1 2 1) (b := 12) eX10_cores_9 (by decide) (ofz (hA _ _)) (ofz (r32l rfl)) (fun c9 => ?_) (fun c9 => ?_)
  · have h := h.1 c9
    refine q_aload_n eX10_cores_15 rfl ?_
    refine q_getR (c := 10) (n := 0) (k := 9) (a := 67) eX10_cores_16 rfl (by decide) (by decide) fX10_61 rfl rfl ?_
    refine q_aload_n eX10_cores_19 rfl ?_
    refine q_getR (c := 10) (n := 0) (k := 3) (a := 2) eX10_cores_20 rfl (by decide) (by decide) fX10_16 rfl rfl ?_
    refine q_getf (c := 9) (n := 0) (k := 1) (v := .int (Int32.ofInt (s.1 2 1))) eX10_cores_23 rfl (by decide) (by decide) fX10_185 rfl ?_
    refine q_V1 (ci := 5) (n := 0) eX10_cores_26 DX5_find lX10_188 rfl (by decide) rfl rfl rfl rfl (h.1 hA (hA _ _)) ?_
    rintro _ _ ⟨s1, rfl, hA1, rfl, h⟩
    refine q_aload_n eX10_cores_29 rfl ?_
    refine q_getR (c := 10) (n := 0) (k := 9) (a := 67) eX10_cores_30 rfl (by decide) (by decide) fX10_61 rfl rfl ?_
    refine q_getf (c := 5) (n := 0) (k := 1) (v := .int (Int32.ofInt (s1.1 67 1))) eX10_cores_33 rfl (by decide) (by decide) fX10_191 rfl ?_
    exact q_iret eX10_cores_36 rfl ⟨_, _, rfl, hA1, (hA1 _ _), rfl, h⟩
  · have h := h.2 c9
    refine q_bi (v := Int32.ofInt (-2)) eX10_cores_12 rfl ?_
    exact q_iret eX10_cores_14 rfl ⟨_, _, rfl, hA, (r32l rfl), rfl, h⟩
theorem eX10_coreAt_0 : decode cX10_coreAt 0 = .ok (.aload_n 0, 1) := by decide +kernel
theorem eX10_coreAt_1 : decode cX10_coreAt 1 = .ok (.getfield 16, 3) := by decide +kernel
theorem eX10_coreAt_4 : decode cX10_coreAt 4 = .ok (.getfield 185, 3) := by decide +kernel
theorem eX10_coreAt_7 : decode cX10_coreAt 7 = .ok (.bipush 12, 2) := by decide +kernel
theorem eX10_coreAt_9 : decode cX10_coreAt 9 = .ok (.if_icmp .le 7, 3) := by decide +kernel
theorem eX10_coreAt_12 : decode cX10_coreAt 12 = .ok (.ldc2_w 194, 3) := by decide +kernel
theorem eX10_coreAt_15 : decode cX10_coreAt 15 = .ok (.lreturn, 1) := by decide +kernel
theorem eX10_coreAt_16 : decode cX10_coreAt 16 = .ok (.aload_n 0, 1) := by decide +kernel
theorem eX10_coreAt_17 : decode cX10_coreAt 17 = .ok (.getfield 61, 3) := by decide +kernel
theorem eX10_coreAt_20 : decode cX10_coreAt 20 = .ok (.aload_n 0, 1) := by decide +kernel
theorem eX10_coreAt_21 : decode cX10_coreAt 21 = .ok (.getfield 16, 3) := by decide +kernel
theorem eX10_coreAt_24 : decode cX10_coreAt 24 = .ok (.getfield 185, 3) := by decide +kernel
theorem eX10_coreAt_27 : decode cX10_coreAt 27 = .ok (.invokevirtual 188, 3) := by decide +kernel
theorem eX10_coreAt_30 : decode cX10_coreAt 30 = .ok (.aload_n 0, 1) := by decide +kernel
theorem eX10_coreAt_31 : decode cX10_coreAt 31 = .ok (.getfield 61, 3) := by decide +kernel
theorem eX10_coreAt_34 : decode cX10_coreAt 34 = .ok (.iload_n 1, 1) := by decide +kernel
theorem eX10_coreAt_35 : decode cX10_coreAt 35 = .ok (.invokevirtual 196, 3) := by decide +kernel
theorem eX10_coreAt_38 : decode cX10_coreAt 38 = .ok (.lreturn, 1) := by decide +kernel
def C_X10_coreAt (s : ST) (p : Int) (Q : ST → Int64 → Prop) : Prop := bx <| RA s → R32 p → q_met mX10_coreAt (qs layX s) [.ref 0, .int (Int32.ofInt p)] (PL layX Q)
theorem C_X10_coreAt.mono {s : ST} {p : Int} {Q Q' : ST → Int64 → Prop} (h : C_X10_coreAt s p Q) (hq : ∀ s v, Q s v → Q' s v) : C_X10_coreAt s p Q' := ⟨fun hA hrp => q_met.mono (h.1 hA hrp) (fun _ _ => PL.mono hq), trivial⟩
set_option maxRecDepth 20000 in
theorem s_X10_coreAt {s : ST} {p : Int} {Q : ST → Int64 → Prop} (h : RA s → R32 p → ((s.1 2 1 ≤ 12 → (C_X5_find s (s.1 2 1) (fun s1 => (C_X5_clashAt s1 p (fun s2 v2 => Q s2 v2))))) ∧ (¬ s.1 2 1 ≤ 12 → Q s (-1)))) : C_X10_coreAt s p Q := by
  refine ⟨?_, trivial⟩
  intro hA hrp
  have h := h hA hrp
  refine q_enter (by decide) (Nat.le_of_ble_eq_true rfl) ?_
  refine q_aload_n eX10_coreAt_0 rfl ?_
  refine q_getR (c := 10) (n := 0) (k := 3) (a := 2) eX10_coreAt_1 rfl (by decide) (by decide) fX10_16 rfl rfl ?_
  refine q_getf (c := 9) (n := 0) (k := 1) (v := .int (Int32.ofInt (s.1 2 1))) eX10_coreAt_4 rfl (by decide) (by decide) fX10_185 rfl ?_
  refine q_bi (v := Int32.ofInt 12) eX10_coreAt_7 rfl ?_
  refine q_cz_le (tgt := 16) (a := s.1 2 1) (b := 12) eX10_coreAt_9 (by decide) (ofz (hA _ _)) (ofz (r32l rfl)) (fun c9 => ?_) (fun c9 => ?_)
  · have h := h.1 c9
    refine q_aload_n eX10_coreAt_16 rfl ?_
    refine q_getR (c := 10) (n := 0) (k := 9) (a := 67) eX10_coreAt_17 rfl (by decide) (by decide) fX10_61 rfl rfl ?_
    refine q_aload_n eX10_coreAt_20 rfl ?_
    refine q_getR (c := 10) (n := 0) (k := 3) (a := 2) eX10_coreAt_21 rfl (by decide) (by decide) fX10_16 rfl rfl ?_
    refine q_getf (c := 9) (n := 0) (k := 1) (v := .int (Int32.ofInt (s.1 2 1))) eX10_coreAt_24 rfl (by decide) (by decide) fX10_185 rfl ?_
    refine q_V1 (ci := 5) (n := 0) eX10_coreAt_27 DX5_find lX10_188 rfl (by decide) rfl rfl rfl rfl (h.1 hA (hA _ _)) ?_
    rintro _ _ ⟨s1, rfl, hA1, rfl, h⟩
    refine q_aload_n eX10_coreAt_30 rfl ?_
    refine q_getR (c := 10) (n := 0) (k := 9) (a := 67) eX10_coreAt_31 rfl (by decide) (by decide) fX10_61 rfl rfl ?_
    refine q_iload_n eX10_coreAt_34 rfl ?_
    refine q_V1 (ci := 5) (n := 0) eX10_coreAt_35 DX5_clashAt lX10_196 rfl (by decide) rfl rfl rfl rfl (h.1 hA1 hrp) ?_
    rintro _ _ ⟨s2, v2, rfl, hA2, rfl, h⟩
    exact q_lret eX10_coreAt_38 rfl ⟨_, _, rfl, hA2, rfl, h⟩
  · have h := h.2 c9
    refine q_ldc2 (v := (-1)) eX10_coreAt_12 nX10_194 ?_
    exact q_lret eX10_coreAt_15 rfl ⟨_, _, rfl, hA, rfl, h⟩
theorem eX10_trust_0 : decode cX10_trust 0 = .ok (.aload_n 0, 1) := by decide +kernel
theorem eX10_trust_1 : decode cX10_trust 1 = .ok (.getfield 16, 3) := by decide +kernel
theorem eX10_trust_4 : decode cX10_trust 4 = .ok (.iload_n 1, 1) := by decide +kernel
theorem eX10_trust_5 : decode cX10_trust 5 = .ok (.invokevirtual 139, 3) := by decide +kernel
theorem eX10_trust_8 : decode cX10_trust 8 = .ok (.ifCond .eq 14, 3) := by decide +kernel
theorem eX10_trust_11 : decode cX10_trust 11 = .ok (.iload_n 2, 1) := by decide +kernel
theorem eX10_trust_12 : decode cX10_trust 12 = .ok (.iconst 1, 1) := by decide +kernel
theorem eX10_trust_13 : decode cX10_trust 13 = .ok (.if_icmp .lt 9, 3) := by decide +kernel
theorem eX10_trust_16 : decode cX10_trust 16 = .ok (.iload_n 2, 1) := by decide +kernel
theorem eX10_trust_17 : decode cX10_trust 17 = .ok (.bipush 100, 2) := by decide +kernel
theorem eX10_trust_19 : decode cX10_trust 19 = .ok (.if_icmp .le 5, 3) := by decide +kernel
theorem eX10_trust_22 : decode cX10_trust 22 = .ok (.iconst (-1), 1) := by decide +kernel
theorem eX10_trust_23 : decode cX10_trust 23 = .ok (.ireturn, 1) := by decide +kernel
theorem eX10_trust_24 : decode cX10_trust 24 = .ok (.aload_n 0, 1) := by decide +kernel
theorem eX10_trust_25 : decode cX10_trust 25 = .ok (.getfield 16, 3) := by decide +kernel
theorem eX10_trust_28 : decode cX10_trust 28 = .ok (.getfield 200, 3) := by decide +kernel
theorem eX10_trust_31 : decode cX10_trust 31 = .ok (.iload_n 1, 1) := by decide +kernel
theorem eX10_trust_32 : decode cX10_trust 32 = .ok (.iaload, 1) := by decide +kernel
theorem eX10_trust_33 : decode cX10_trust 33 = .ok (.istore_n 3, 1) := by decide +kernel
theorem eX10_trust_34 : decode cX10_trust 34 = .ok (.aload_n 0, 1) := by decide +kernel
theorem eX10_trust_35 : decode cX10_trust 35 = .ok (.getfield 16, 3) := by decide +kernel
theorem eX10_trust_38 : decode cX10_trust 38 = .ok (.getfield 200, 3) := by decide +kernel
theorem eX10_trust_41 : decode cX10_trust 41 = .ok (.iload_n 1, 1) := by decide +kernel
theorem eX10_trust_42 : decode cX10_trust 42 = .ok (.iload_n 2, 1) := by decide +kernel
theorem eX10_trust_43 : decode cX10_trust 43 = .ok (.iastore, 1) := by decide +kernel
theorem eX10_trust_44 : decode cX10_trust 44 = .ok (.aload_n 0, 1) := by decide +kernel
theorem eX10_trust_45 : decode cX10_trust 45 = .ok (.getfield 70, 3) := by decide +kernel
theorem eX10_trust_48 : decode cX10_trust 48 = .ok (.iconst 0, 1) := by decide +kernel
theorem eX10_trust_49 : decode cX10_trust 49 = .ok (.putfield 203, 3) := by decide +kernel
theorem eX10_trust_52 : decode cX10_trust 52 = .ok (.aload_n 0, 1) := by decide +kernel
theorem eX10_trust_53 : decode cX10_trust 53 = .ok (.getfield 79, 3) := by decide +kernel
theorem eX10_trust_56 : decode cX10_trust 56 = .ok (.iconst 0, 1) := by decide +kernel
theorem eX10_trust_57 : decode cX10_trust 57 = .ok (.putfield 206, 3) := by decide +kernel
theorem eX10_trust_60 : decode cX10_trust 60 = .ok (.iload_n 3, 1) := by decide +kernel
theorem eX10_trust_61 : decode cX10_trust 61 = .ok (.ireturn, 1) := by decide +kernel
def C_X10_trust (s : ST) (p : Int) (q : Int) (Q : ST → Int → Prop) : Prop := bx <| RA s → R32 p → R32 q → q_met mX10_trust (qs layX s) [.ref 0, .int (Int32.ofInt p), .int (Int32.ofInt q)] (PI layX Q)
theorem C_X10_trust.mono {s : ST} {p : Int} {q : Int} {Q Q' : ST → Int → Prop} (h : C_X10_trust s p q Q) (hq : ∀ s v, Q s v → Q' s v) : C_X10_trust s p q Q' := ⟨fun hA hrp hrq => q_met.mono (h.1 hA hrp hrq) (fun _ _ => PI.mono hq), trivial⟩
set_option maxRecDepth 20000 in
theorem s_X10_trust {s : ST} {p : Int} {q : Int} {Q : ST → Int → Prop} (h : RA s → R32 p → R32 q → ((¬ (¬ p < 0 ∧ (¬ s.1 2 1 ≤ p ∧ ¬ 40 ≤ p)) → Q s (-1)) ∧ ((¬ p < 0 ∧ (¬ s.1 2 1 ≤ p ∧ ¬ 40 ≤ p)) → ((q < 1 → Q s (-1)) ∧ (¬ q < 1 → ((q ≤ 100 → (((0 : Int) ≤ p ∧ p < 40) ∧ Q (ui (ui (ui s 9 p q) 69 0 0) 76 0 0) (s.1 9 p))) ∧ (¬ q ≤ 100 → Q s (-1)))))))) : C_X10_trust s p q Q := by
  refine ⟨?_, trivial⟩
  intro hA hrp hrq
  have h := h hA hrp hrq
  refine q_enter (by decide) (Nat.le_of_ble_eq_true rfl) ?_
  refine q_aload_n eX10_trust_0 rfl ?_
  refine q_getR (c := 10) (n := 0) (k := 3) (a := 2) eX10_trust_1 rfl (by decide) (by decide) fX10_16 rfl rfl ?_
  refine q_iload_n eX10_trust_4 rfl ?_
  refine q_V1 (ci := 9) (n := 0) eX10_trust_5 DX9_has lX10_139 rfl (by decide) rfl rfl rfl rfl (p_X9_has (by decide) hA hrp) ?_
  rintro _ _ ⟨b1, rfl, rfl⟩
  refine q_iz_eq (tgt := 22) (a := (F_X9_has 2 s p)) eX10_trust_8 (by decide) (ofz (r01 b1)) (fun c8 => ?_) (fun c8 => ?_)
  · have h := h.1 (fun q => n_X9_has.mpr q c8)
    refine q_ic (v := Int32.ofInt (-1)) eX10_trust_22 rfl ?_
    exact q_iret eX10_trust_23 rfl ⟨_, _, rfl, hA, (r32l rfl), rfl, h⟩
  · have h := h.2 (n_X9_has.mp c8)
    refine q_iload_n eX10_trust_11 rfl ?_
    refine q_ic (v := Int32.ofInt 1) eX10_trust_12 rfl ?_
    refine q_cz_lt (tgt := 22) (a := q) (b := 1) eX10_trust_13 (by decide) (ofz hrq) (ofz (r32l rfl)) (fun c13 => ?_) (fun c13 => ?_)
    · have h := h.1 c13
      refine q_ic (v := Int32.ofInt (-1)) eX10_trust_22 rfl ?_
      exact q_iret eX10_trust_23 rfl ⟨_, _, rfl, hA, (r32l rfl), rfl, h⟩
    · have h := h.2 c13
      refine q_iload_n eX10_trust_16 rfl ?_
      refine q_bi (v := Int32.ofInt 100) eX10_trust_17 rfl ?_
      refine q_cz_le (tgt := 24) (a := q) (b := 100) eX10_trust_19 (by decide) (ofz hrq) (ofz (r32l rfl)) (fun c19 => ?_) (fun c19 => ?_)
      · have h := h.1 c19
        refine q_aload_n eX10_trust_24 rfl ?_
        refine q_getR (c := 10) (n := 0) (k := 3) (a := 2) eX10_trust_25 rfl (by decide) (by decide) fX10_16 rfl rfl ?_
        refine q_getR (c := 9) (n := 0) (k := 9) (a := 9) eX10_trust_28 rfl (by decide) (by decide) fX10_200 rfl rfl ?_
        refine q_iload_n eX10_trust_31 rfl ?_
        have f2 := h.1
        have h := h.2
        refine z_iald (n := 40) eX10_trust_32 rfl (ofz hrp) f2 ?_
        refine q_topI (v := Int32.ofInt (s.1 9 p)) rfl ?_
        refine q_istore_n eX10_trust_33 (Nat.le_of_ble_eq_true rfl) ?_
        refine q_aload_n eX10_trust_34 rfl ?_
        refine q_getR (c := 10) (n := 0) (k := 3) (a := 2) eX10_trust_35 rfl (by decide) (by decide) fX10_16 rfl rfl ?_
        refine q_getR (c := 9) (n := 0) (k := 9) (a := 9) eX10_trust_38 rfl (by decide) (by decide) fX10_200 rfl rfl ?_
        refine q_iload_n eX10_trust_41 rfl ?_
        refine q_iload_n eX10_trust_42 rfl ?_
        refine z_iast (n := 40) eX10_trust_43 rfl (ofz hrp) f2  ?_
        refine q_aload_n eX10_trust_44 rfl ?_
        refine q_getR (c := 10) (n := 0) (k := 10) (a := 69) eX10_trust_45 rfl (by decide) (by decide) fX10_70 rfl rfl ?_
        refine q_ic (v := Int32.ofInt 0) eX10_trust_48 rfl ?_
        refine z_putZ (c := 1) (n := 0) (k := 0) (kz := 0) eX10_trust_49 rfl (by decide) (by decide) fX10_203 rfl rfl rfl (z01 (Or.inl rfl)) ?_
        refine q_aload_n eX10_trust_52 rfl ?_
        refine q_getR (c := 10) (n := 0) (k := 11) (a := 76) eX10_trust_53 rfl (by decide) (by decide) fX10_79 rfl rfl ?_
        refine q_ic (v := Int32.ofInt 0) eX10_trust_56 rfl ?_
        refine z_putZ (c := 3) (n := 0) (k := 0) (kz := 0) eX10_trust_57 rfl (by decide) (by decide) fX10_206 rfl rfl rfl (z01 (Or.inl rfl)) ?_
        refine q_iload_n eX10_trust_60 rfl ?_
        exact q_iret eX10_trust_61 rfl ⟨_, _, rfl, (ra_ui (ra_ui (ra_ui hA hrq) (r32l rfl)) (r32l rfl)), (hA _ _), rfl, h⟩
      · have h := h.2 c19
        refine q_ic (v := Int32.ofInt (-1)) eX10_trust_22 rfl ?_
        exact q_iret eX10_trust_23 rfl ⟨_, _, rfl, hA, (r32l rfl), rfl, h⟩
theorem eX10_cheapest_0 : decode cX10_cheapest 0 = .ok (.aload_n 0, 1) := by decide +kernel
theorem eX10_cheapest_1 : decode cX10_cheapest 1 = .ok (.getfield 16, 3) := by decide +kernel
theorem eX10_cheapest_4 : decode cX10_cheapest 4 = .ok (.getfield 185, 3) := by decide +kernel
theorem eX10_cheapest_7 : decode cX10_cheapest 7 = .ok (.bipush 24, 2) := by decide +kernel
theorem eX10_cheapest_9 : decode cX10_cheapest 9 = .ok (.if_icmp .le 7, 3) := by decide +kernel
theorem eX10_cheapest_12 : decode cX10_cheapest 12 = .ok (.ldc2_w 207, 3) := by decide +kernel
theorem eX10_cheapest_15 : decode cX10_cheapest 15 = .ok (.lreturn, 1) := by decide +kernel
theorem eX10_cheapest_16 : decode cX10_cheapest 16 = .ok (.aload_n 0, 1) := by decide +kernel
theorem eX10_cheapest_17 : decode cX10_cheapest 17 = .ok (.getfield 70, 3) := by decide +kernel
theorem eX10_cheapest_20 : decode cX10_cheapest 20 = .ok (.invokevirtual 209, 3) := by decide +kernel
theorem eX10_cheapest_23 : decode cX10_cheapest 23 = .ok (.lreturn, 1) := by decide +kernel
def C_X10_cheapest (s : ST) (Q : ST → Int64 → Prop) : Prop := bx <| RA s → q_met mX10_cheapest (qs layX s) [.ref 0] (PL layX Q)
theorem C_X10_cheapest.mono {s : ST} {Q Q' : ST → Int64 → Prop} (h : C_X10_cheapest s Q) (hq : ∀ s v, Q s v → Q' s v) : C_X10_cheapest s Q' := ⟨fun hA => q_met.mono (h.1 hA) (fun _ _ => PL.mono hq), trivial⟩
set_option maxRecDepth 20000 in
theorem s_X10_cheapest {s : ST} {Q : ST → Int64 → Prop} (h : RA s → ((s.1 2 1 ≤ 24 → (C_X1_find s (fun s1 v1 => Q s1 v1))) ∧ (¬ s.1 2 1 ≤ 24 → Q s (-2)))) : C_X10_cheapest s Q := by
  refine ⟨?_, trivial⟩
  intro hA
  have h := h hA
  refine q_enter (by decide) (Nat.le_of_ble_eq_true rfl) ?_
  refine q_aload_n eX10_cheapest_0 rfl ?_
  refine q_getR (c := 10) (n := 0) (k := 3) (a := 2) eX10_cheapest_1 rfl (by decide) (by decide) fX10_16 rfl rfl ?_
  refine q_getf (c := 9) (n := 0) (k := 1) (v := .int (Int32.ofInt (s.1 2 1))) eX10_cheapest_4 rfl (by decide) (by decide) fX10_185 rfl ?_
  refine q_bi (v := Int32.ofInt 24) eX10_cheapest_7 rfl ?_
  refine q_cz_le (tgt := 16) (a := s.1 2 1) (b := 24) eX10_cheapest_9 (by decide) (ofz (hA _ _)) (ofz (r32l rfl)) (fun c9 => ?_) (fun c9 => ?_)
  · have h := h.1 c9
    refine q_aload_n eX10_cheapest_16 rfl ?_
    refine q_getR (c := 10) (n := 0) (k := 10) (a := 69) eX10_cheapest_17 rfl (by decide) (by decide) fX10_70 rfl rfl ?_
    refine q_V0 (ci := 1) (n := 0) eX10_cheapest_20 DX1_find lX10_209 rfl (by decide) rfl rfl rfl rfl (h.1 hA) ?_
    rintro _ _ ⟨s1, v1, rfl, hA1, rfl, h⟩
    exact q_lret eX10_cheapest_23 rfl ⟨_, _, rfl, hA1, rfl, h⟩
  · have h := h.2 c9
    refine q_ldc2 (v := (-2)) eX10_cheapest_12 nX10_207 ?_
    exact q_lret eX10_cheapest_15 rfl ⟨_, _, rfl, hA, rfl, h⟩
theorem eX10_mends_0 : decode cX10_mends 0 = .ok (.aload_n 0, 1) := by decide +kernel
theorem eX10_mends_1 : decode cX10_mends 1 = .ok (.getfield 16, 3) := by decide +kernel
theorem eX10_mends_4 : decode cX10_mends 4 = .ok (.getfield 185, 3) := by decide +kernel
theorem eX10_mends_7 : decode cX10_mends 7 = .ok (.bipush 12, 2) := by decide +kernel
theorem eX10_mends_9 : decode cX10_mends 9 = .ok (.if_icmp .le 6, 3) := by decide +kernel
theorem eX10_mends_12 : decode cX10_mends 12 = .ok (.bipush (-2), 2) := by decide +kernel
theorem eX10_mends_14 : decode cX10_mends 14 = .ok (.ireturn, 1) := by decide +kernel
theorem eX10_mends_15 : decode cX10_mends 15 = .ok (.aload_n 0, 1) := by decide +kernel
theorem eX10_mends_16 : decode cX10_mends 16 = .ok (.getfield 61, 3) := by decide +kernel
theorem eX10_mends_19 : decode cX10_mends 19 = .ok (.aload_n 0, 1) := by decide +kernel
theorem eX10_mends_20 : decode cX10_mends 20 = .ok (.getfield 16, 3) := by decide +kernel
theorem eX10_mends_23 : decode cX10_mends 23 = .ok (.getfield 185, 3) := by decide +kernel
theorem eX10_mends_26 : decode cX10_mends 26 = .ok (.invokevirtual 188, 3) := by decide +kernel
theorem eX10_mends_29 : decode cX10_mends 29 = .ok (.aload_n 0, 1) := by decide +kernel
theorem eX10_mends_30 : decode cX10_mends 30 = .ok (.getfield 61, 3) := by decide +kernel
theorem eX10_mends_33 : decode cX10_mends 33 = .ok (.getfield 211, 3) := by decide +kernel
theorem eX10_mends_36 : decode cX10_mends 36 = .ok (.ireturn, 1) := by decide +kernel
def C_X10_mends (s : ST) (Q : ST → Int → Prop) : Prop := bx <| RA s → q_met mX10_mends (qs layX s) [.ref 0] (PI layX Q)
theorem C_X10_mends.mono {s : ST} {Q Q' : ST → Int → Prop} (h : C_X10_mends s Q) (hq : ∀ s v, Q s v → Q' s v) : C_X10_mends s Q' := ⟨fun hA => q_met.mono (h.1 hA) (fun _ _ => PI.mono hq), trivial⟩
set_option maxRecDepth 20000 in
theorem s_X10_mends {s : ST} {Q : ST → Int → Prop} (h : RA s → ((s.1 2 1 ≤ 12 → (C_X5_find s (s.1 2 1) (fun s1 => Q s1 (s1.1 67 2)))) ∧ (¬ s.1 2 1 ≤ 12 → Q s (-2)))) : C_X10_mends s Q := by
  refine ⟨?_, trivial⟩
  intro hA
  have h := h hA
  refine q_enter (by decide) (Nat.le_of_ble_eq_true rfl) ?_
  refine q_aload_n eX10_mends_0 rfl ?_
  refine q_getR (c := 10) (n := 0) (k := 3) (a := 2) eX10_mends_1 rfl (by decide) (by decide) fX10_16 rfl rfl ?_
  refine q_getf (c := 9) (n := 0) (k := 1) (v := .int (Int32.ofInt (s.1 2 1))) eX10_mends_4 rfl (by decide) (by decide) fX10_185 rfl ?_
  refine q_bi (v := Int32.ofInt 12) eX10_mends_7 rfl ?_
  refine q_cz_le (tgt := 15) (a := s.1 2 1) (b := 12) eX10_mends_9 (by decide) (ofz (hA _ _)) (ofz (r32l rfl)) (fun c9 => ?_) (fun c9 => ?_)
  · have h := h.1 c9
    refine q_aload_n eX10_mends_15 rfl ?_
    refine q_getR (c := 10) (n := 0) (k := 9) (a := 67) eX10_mends_16 rfl (by decide) (by decide) fX10_61 rfl rfl ?_
    refine q_aload_n eX10_mends_19 rfl ?_
    refine q_getR (c := 10) (n := 0) (k := 3) (a := 2) eX10_mends_20 rfl (by decide) (by decide) fX10_16 rfl rfl ?_
    refine q_getf (c := 9) (n := 0) (k := 1) (v := .int (Int32.ofInt (s.1 2 1))) eX10_mends_23 rfl (by decide) (by decide) fX10_185 rfl ?_
    refine q_V1 (ci := 5) (n := 0) eX10_mends_26 DX5_find lX10_188 rfl (by decide) rfl rfl rfl rfl (h.1 hA (hA _ _)) ?_
    rintro _ _ ⟨s1, rfl, hA1, rfl, h⟩
    refine q_aload_n eX10_mends_29 rfl ?_
    refine q_getR (c := 10) (n := 0) (k := 9) (a := 67) eX10_mends_30 rfl (by decide) (by decide) fX10_61 rfl rfl ?_
    refine q_getf (c := 5) (n := 0) (k := 2) (v := .int (Int32.ofInt (s1.1 67 2))) eX10_mends_33 rfl (by decide) (by decide) fX10_211 rfl ?_
    exact q_iret eX10_mends_36 rfl ⟨_, _, rfl, hA1, (hA1 _ _), rfl, h⟩
  · have h := h.2 c9
    refine q_bi (v := Int32.ofInt (-2)) eX10_mends_12 rfl ?_
    exact q_iret eX10_mends_14 rfl ⟨_, _, rfl, hA, (r32l rfl), rfl, h⟩
theorem eX10_mendAt_0 : decode cX10_mendAt 0 = .ok (.aload_n 0, 1) := by decide +kernel
theorem eX10_mendAt_1 : decode cX10_mendAt 1 = .ok (.getfield 16, 3) := by decide +kernel
theorem eX10_mendAt_4 : decode cX10_mendAt 4 = .ok (.getfield 185, 3) := by decide +kernel
theorem eX10_mendAt_7 : decode cX10_mendAt 7 = .ok (.bipush 12, 2) := by decide +kernel
theorem eX10_mendAt_9 : decode cX10_mendAt 9 = .ok (.if_icmp .le 7, 3) := by decide +kernel
theorem eX10_mendAt_12 : decode cX10_mendAt 12 = .ok (.ldc2_w 194, 3) := by decide +kernel
theorem eX10_mendAt_15 : decode cX10_mendAt 15 = .ok (.lreturn, 1) := by decide +kernel
theorem eX10_mendAt_16 : decode cX10_mendAt 16 = .ok (.aload_n 0, 1) := by decide +kernel
theorem eX10_mendAt_17 : decode cX10_mendAt 17 = .ok (.getfield 61, 3) := by decide +kernel
theorem eX10_mendAt_20 : decode cX10_mendAt 20 = .ok (.aload_n 0, 1) := by decide +kernel
theorem eX10_mendAt_21 : decode cX10_mendAt 21 = .ok (.getfield 16, 3) := by decide +kernel
theorem eX10_mendAt_24 : decode cX10_mendAt 24 = .ok (.getfield 185, 3) := by decide +kernel
theorem eX10_mendAt_27 : decode cX10_mendAt 27 = .ok (.invokevirtual 188, 3) := by decide +kernel
theorem eX10_mendAt_30 : decode cX10_mendAt 30 = .ok (.aload_n 0, 1) := by decide +kernel
theorem eX10_mendAt_31 : decode cX10_mendAt 31 = .ok (.getfield 61, 3) := by decide +kernel
theorem eX10_mendAt_34 : decode cX10_mendAt 34 = .ok (.iload_n 1, 1) := by decide +kernel
theorem eX10_mendAt_35 : decode cX10_mendAt 35 = .ok (.invokevirtual 214, 3) := by decide +kernel
theorem eX10_mendAt_38 : decode cX10_mendAt 38 = .ok (.lreturn, 1) := by decide +kernel
def C_X10_mendAt (s : ST) (p : Int) (Q : ST → Int64 → Prop) : Prop := bx <| RA s → R32 p → q_met mX10_mendAt (qs layX s) [.ref 0, .int (Int32.ofInt p)] (PL layX Q)
theorem C_X10_mendAt.mono {s : ST} {p : Int} {Q Q' : ST → Int64 → Prop} (h : C_X10_mendAt s p Q) (hq : ∀ s v, Q s v → Q' s v) : C_X10_mendAt s p Q' := ⟨fun hA hrp => q_met.mono (h.1 hA hrp) (fun _ _ => PL.mono hq), trivial⟩
set_option maxRecDepth 20000 in
theorem s_X10_mendAt {s : ST} {p : Int} {Q : ST → Int64 → Prop} (h : RA s → R32 p → ((s.1 2 1 ≤ 12 → (C_X5_find s (s.1 2 1) (fun s1 => (C_X5_mendNumbered s1 p (fun s2 v2 => Q s2 v2))))) ∧ (¬ s.1 2 1 ≤ 12 → Q s (-1)))) : C_X10_mendAt s p Q := by
  refine ⟨?_, trivial⟩
  intro hA hrp
  have h := h hA hrp
  refine q_enter (by decide) (Nat.le_of_ble_eq_true rfl) ?_
  refine q_aload_n eX10_mendAt_0 rfl ?_
  refine q_getR (c := 10) (n := 0) (k := 3) (a := 2) eX10_mendAt_1 rfl (by decide) (by decide) fX10_16 rfl rfl ?_
  refine q_getf (c := 9) (n := 0) (k := 1) (v := .int (Int32.ofInt (s.1 2 1))) eX10_mendAt_4 rfl (by decide) (by decide) fX10_185 rfl ?_
  refine q_bi (v := Int32.ofInt 12) eX10_mendAt_7 rfl ?_
  refine q_cz_le (tgt := 16) (a := s.1 2 1) (b := 12) eX10_mendAt_9 (by decide) (ofz (hA _ _)) (ofz (r32l rfl)) (fun c9 => ?_) (fun c9 => ?_)
  · have h := h.1 c9
    refine q_aload_n eX10_mendAt_16 rfl ?_
    refine q_getR (c := 10) (n := 0) (k := 9) (a := 67) eX10_mendAt_17 rfl (by decide) (by decide) fX10_61 rfl rfl ?_
    refine q_aload_n eX10_mendAt_20 rfl ?_
    refine q_getR (c := 10) (n := 0) (k := 3) (a := 2) eX10_mendAt_21 rfl (by decide) (by decide) fX10_16 rfl rfl ?_
    refine q_getf (c := 9) (n := 0) (k := 1) (v := .int (Int32.ofInt (s.1 2 1))) eX10_mendAt_24 rfl (by decide) (by decide) fX10_185 rfl ?_
    refine q_V1 (ci := 5) (n := 0) eX10_mendAt_27 DX5_find lX10_188 rfl (by decide) rfl rfl rfl rfl (h.1 hA (hA _ _)) ?_
    rintro _ _ ⟨s1, rfl, hA1, rfl, h⟩
    refine q_aload_n eX10_mendAt_30 rfl ?_
    refine q_getR (c := 10) (n := 0) (k := 9) (a := 67) eX10_mendAt_31 rfl (by decide) (by decide) fX10_61 rfl rfl ?_
    refine q_iload_n eX10_mendAt_34 rfl ?_
    refine q_V1 (ci := 5) (n := 0) eX10_mendAt_35 DX5_mendNumbered lX10_214 rfl (by decide) rfl rfl rfl rfl (h.1 hA1 hrp) ?_
    rintro _ _ ⟨s2, v2, rfl, hA2, rfl, h⟩
    exact q_lret eX10_mendAt_38 rfl ⟨_, _, rfl, hA2, rfl, h⟩
  · have h := h.2 c9
    refine q_ldc2 (v := (-1)) eX10_mendAt_12 nX10_194 ?_
    exact q_lret eX10_mendAt_15 rfl ⟨_, _, rfl, hA, rfl, h⟩
theorem eX10_hints_0 : decode cX10_hints 0 = .ok (.aload_n 0, 1) := by decide +kernel
theorem eX10_hints_1 : decode cX10_hints 1 = .ok (.getfield 16, 3) := by decide +kernel
theorem eX10_hints_4 : decode cX10_hints 4 = .ok (.getfield 185, 3) := by decide +kernel
theorem eX10_hints_7 : decode cX10_hints 7 = .ok (.bipush 24, 2) := by decide +kernel
theorem eX10_hints_9 : decode cX10_hints 9 = .ok (.if_icmp .le 6, 3) := by decide +kernel
theorem eX10_hints_12 : decode cX10_hints 12 = .ok (.bipush (-2), 2) := by decide +kernel
theorem eX10_hints_14 : decode cX10_hints 14 = .ok (.ireturn, 1) := by decide +kernel
theorem eX10_hints_15 : decode cX10_hints 15 = .ok (.aload_n 0, 1) := by decide +kernel
theorem eX10_hints_16 : decode cX10_hints 16 = .ok (.getfield 79, 3) := by decide +kernel
theorem eX10_hints_19 : decode cX10_hints 19 = .ok (.aload_n 0, 1) := by decide +kernel
theorem eX10_hints_20 : decode cX10_hints 20 = .ok (.getfield 70, 3) := by decide +kernel
theorem eX10_hints_23 : decode cX10_hints 23 = .ok (.invokevirtual 209, 3) := by decide +kernel
theorem eX10_hints_26 : decode cX10_hints 26 = .ok (.invokevirtual 217, 3) := by decide +kernel
theorem eX10_hints_29 : decode cX10_hints 29 = .ok (.aload_n 0, 1) := by decide +kernel
theorem eX10_hints_30 : decode cX10_hints 30 = .ok (.getfield 79, 3) := by decide +kernel
theorem eX10_hints_33 : decode cX10_hints 33 = .ok (.getfield 220, 3) := by decide +kernel
theorem eX10_hints_36 : decode cX10_hints 36 = .ok (.ireturn, 1) := by decide +kernel
def C_X10_hints (s : ST) (Q : ST → Int → Prop) : Prop := bx <| RA s → q_met mX10_hints (qs layX s) [.ref 0] (PI layX Q)
theorem C_X10_hints.mono {s : ST} {Q Q' : ST → Int → Prop} (h : C_X10_hints s Q) (hq : ∀ s v, Q s v → Q' s v) : C_X10_hints s Q' := ⟨fun hA => q_met.mono (h.1 hA) (fun _ _ => PI.mono hq), trivial⟩
set_option maxRecDepth 20000 in
theorem s_X10_hints {s : ST} {Q : ST → Int → Prop} (h : RA s → ((s.1 2 1 ≤ 24 → (C_X1_find s (fun s1 v1 => (C_X3_list s1 v1 (fun s2 => Q s2 (s2.1 76 1)))))) ∧ (¬ s.1 2 1 ≤ 24 → Q s (-2)))) : C_X10_hints s Q := by
  refine ⟨?_, trivial⟩
  intro hA
  have h := h hA
  refine q_enter (by decide) (Nat.le_of_ble_eq_true rfl) ?_
  refine q_aload_n eX10_hints_0 rfl ?_
  refine q_getR (c := 10) (n := 0) (k := 3) (a := 2) eX10_hints_1 rfl (by decide) (by decide) fX10_16 rfl rfl ?_
  refine q_getf (c := 9) (n := 0) (k := 1) (v := .int (Int32.ofInt (s.1 2 1))) eX10_hints_4 rfl (by decide) (by decide) fX10_185 rfl ?_
  refine q_bi (v := Int32.ofInt 24) eX10_hints_7 rfl ?_
  refine q_cz_le (tgt := 15) (a := s.1 2 1) (b := 24) eX10_hints_9 (by decide) (ofz (hA _ _)) (ofz (r32l rfl)) (fun c9 => ?_) (fun c9 => ?_)
  · have h := h.1 c9
    refine q_aload_n eX10_hints_15 rfl ?_
    refine q_getR (c := 10) (n := 0) (k := 11) (a := 76) eX10_hints_16 rfl (by decide) (by decide) fX10_79 rfl rfl ?_
    refine q_aload_n eX10_hints_19 rfl ?_
    refine q_getR (c := 10) (n := 0) (k := 10) (a := 69) eX10_hints_20 rfl (by decide) (by decide) fX10_70 rfl rfl ?_
    refine q_V0 (ci := 1) (n := 0) eX10_hints_23 DX1_find lX10_209 rfl (by decide) rfl rfl rfl rfl (h.1 hA) ?_
    rintro _ _ ⟨s1, v1, rfl, hA1, rfl, h⟩
    refine q_V1 (ci := 3) (n := 0) eX10_hints_26 DX3_list lX10_217 rfl (by decide) rfl rfl rfl rfl (h.1 hA1) ?_
    rintro _ _ ⟨s2, rfl, hA2, rfl, h⟩
    refine q_aload_n eX10_hints_29 rfl ?_
    refine q_getR (c := 10) (n := 0) (k := 11) (a := 76) eX10_hints_30 rfl (by decide) (by decide) fX10_79 rfl rfl ?_
    refine q_getf (c := 3) (n := 0) (k := 1) (v := .int (Int32.ofInt (s2.1 76 1))) eX10_hints_33 rfl (by decide) (by decide) fX10_220 rfl ?_
    exact q_iret eX10_hints_36 rfl ⟨_, _, rfl, hA2, (hA2 _ _), rfl, h⟩
  · have h := h.2 c9
    refine q_bi (v := Int32.ofInt (-2)) eX10_hints_12 rfl ?_
    exact q_iret eX10_hints_14 rfl ⟨_, _, rfl, hA, (r32l rfl), rfl, h⟩
theorem eX10_hint_0 : decode cX10_hint 0 = .ok (.aload_n 0, 1) := by decide +kernel
theorem eX10_hint_1 : decode cX10_hint 1 = .ok (.getfield 16, 3) := by decide +kernel
theorem eX10_hint_4 : decode cX10_hint 4 = .ok (.getfield 185, 3) := by decide +kernel
theorem eX10_hint_7 : decode cX10_hint 7 = .ok (.bipush 24, 2) := by decide +kernel
theorem eX10_hint_9 : decode cX10_hint 9 = .ok (.if_icmp .le 5, 3) := by decide +kernel
theorem eX10_hint_12 : decode cX10_hint 12 = .ok (.iconst (-1), 1) := by decide +kernel
theorem eX10_hint_13 : decode cX10_hint 13 = .ok (.ireturn, 1) := by decide +kernel
theorem eX10_hint_14 : decode cX10_hint 14 = .ok (.aload_n 0, 1) := by decide +kernel
theorem eX10_hint_15 : decode cX10_hint 15 = .ok (.getfield 79, 3) := by decide +kernel
theorem eX10_hint_18 : decode cX10_hint 18 = .ok (.aload_n 0, 1) := by decide +kernel
theorem eX10_hint_19 : decode cX10_hint 19 = .ok (.getfield 70, 3) := by decide +kernel
theorem eX10_hint_22 : decode cX10_hint 22 = .ok (.invokevirtual 209, 3) := by decide +kernel
theorem eX10_hint_25 : decode cX10_hint 25 = .ok (.invokevirtual 217, 3) := by decide +kernel
theorem eX10_hint_28 : decode cX10_hint 28 = .ok (.aload_n 0, 1) := by decide +kernel
theorem eX10_hint_29 : decode cX10_hint 29 = .ok (.getfield 79, 3) := by decide +kernel
theorem eX10_hint_32 : decode cX10_hint 32 = .ok (.iload_n 1, 1) := by decide +kernel
theorem eX10_hint_33 : decode cX10_hint 33 = .ok (.invokevirtual 223, 3) := by decide +kernel
theorem eX10_hint_36 : decode cX10_hint 36 = .ok (.ifCond .ne 5, 3) := by decide +kernel
theorem eX10_hint_39 : decode cX10_hint 39 = .ok (.iconst (-1), 1) := by decide +kernel
theorem eX10_hint_40 : decode cX10_hint 40 = .ok (.ireturn, 1) := by decide +kernel
theorem eX10_hint_41 : decode cX10_hint 41 = .ok (.iload_n 2, 1) := by decide +kernel
theorem eX10_hint_42 : decode cX10_hint 42 = .ok (.tableswitch 56 0 2 #[26, 36, 46], 26) := by decide +kernel
theorem eX10_hint_68 : decode cX10_hint 68 = .ok (.aload_n 0, 1) := by decide +kernel
theorem eX10_hint_69 : decode cX10_hint 69 = .ok (.getfield 79, 3) := by decide +kernel
theorem eX10_hint_72 : decode cX10_hint 72 = .ok (.getfield 224, 3) := by decide +kernel
theorem eX10_hint_75 : decode cX10_hint 75 = .ok (.iload_n 1, 1) := by decide +kernel
theorem eX10_hint_76 : decode cX10_hint 76 = .ok (.iaload, 1) := by decide +kernel
theorem eX10_hint_77 : decode cX10_hint 77 = .ok (.ireturn, 1) := by decide +kernel
theorem eX10_hint_78 : decode cX10_hint 78 = .ok (.aload_n 0, 1) := by decide +kernel
theorem eX10_hint_79 : decode cX10_hint 79 = .ok (.getfield 79, 3) := by decide +kernel
theorem eX10_hint_82 : decode cX10_hint 82 = .ok (.getfield 227, 3) := by decide +kernel
theorem eX10_hint_85 : decode cX10_hint 85 = .ok (.iload_n 1, 1) := by decide +kernel
theorem eX10_hint_86 : decode cX10_hint 86 = .ok (.iaload, 1) := by decide +kernel
theorem eX10_hint_87 : decode cX10_hint 87 = .ok (.ireturn, 1) := by decide +kernel
theorem eX10_hint_88 : decode cX10_hint 88 = .ok (.aload_n 0, 1) := by decide +kernel
theorem eX10_hint_89 : decode cX10_hint 89 = .ok (.getfield 79, 3) := by decide +kernel
theorem eX10_hint_92 : decode cX10_hint 92 = .ok (.getfield 230, 3) := by decide +kernel
theorem eX10_hint_95 : decode cX10_hint 95 = .ok (.iload_n 1, 1) := by decide +kernel
theorem eX10_hint_96 : decode cX10_hint 96 = .ok (.iaload, 1) := by decide +kernel
theorem eX10_hint_97 : decode cX10_hint 97 = .ok (.ireturn, 1) := by decide +kernel
theorem eX10_hint_98 : decode cX10_hint 98 = .ok (.iconst (-1), 1) := by decide +kernel
theorem eX10_hint_99 : decode cX10_hint 99 = .ok (.ireturn, 1) := by decide +kernel
def C_X10_hint (s : ST) (p : Int) (q : Int) (Q : ST → Int → Prop) : Prop := bx <| RA s → R32 p → R32 q → q_met mX10_hint (qs layX s) [.ref 0, .int (Int32.ofInt p), .int (Int32.ofInt q)] (PI layX Q)
theorem C_X10_hint.mono {s : ST} {p : Int} {q : Int} {Q Q' : ST → Int → Prop} (h : C_X10_hint s p q Q) (hq : ∀ s v, Q s v → Q' s v) : C_X10_hint s p q Q' := ⟨fun hA hrp hrq => q_met.mono (h.1 hA hrp hrq) (fun _ _ => PI.mono hq), trivial⟩
set_option maxRecDepth 20000 in
theorem s_X10_hint {s : ST} {p : Int} {q : Int} {Q : ST → Int → Prop} (h : RA s → R32 p → R32 q → ((s.1 2 1 ≤ 24 → (C_X1_find s (fun s1 v1 => (C_X3_list s1 v1 (fun s2 => (((¬ p < 0 ∧ (¬ s2.1 76 1 ≤ p ∧ ¬ 40 ≤ p)) → ((q = 0 → (((0 : Int) ≤ p ∧ p < 40) ∧ Q s2 (s2.1 77 p))) ∧ (q = 1 → (((0 : Int) ≤ p ∧ p < 40) ∧ Q s2 (s2.1 78 p))) ∧ (q = 2 → (((0 : Int) ≤ p ∧ p < 40) ∧ Q s2 (s2.1 79 p))) ∧ ((q < 0 ∨ 2 < q) → Q s2 (-1)))) ∧ (¬ (¬ p < 0 ∧ (¬ s2.1 76 1 ≤ p ∧ ¬ 40 ≤ p)) → Q s2 (-1)))))))) ∧ (¬ s.1 2 1 ≤ 24 → Q s (-1)))) : C_X10_hint s p q Q := by
  refine ⟨?_, trivial⟩
  intro hA hrp hrq
  have h := h hA hrp hrq
  refine q_enter (by decide) (Nat.le_of_ble_eq_true rfl) ?_
  refine q_aload_n eX10_hint_0 rfl ?_
  refine q_getR (c := 10) (n := 0) (k := 3) (a := 2) eX10_hint_1 rfl (by decide) (by decide) fX10_16 rfl rfl ?_
  refine q_getf (c := 9) (n := 0) (k := 1) (v := .int (Int32.ofInt (s.1 2 1))) eX10_hint_4 rfl (by decide) (by decide) fX10_185 rfl ?_
  refine q_bi (v := Int32.ofInt 24) eX10_hint_7 rfl ?_
  refine q_cz_le (tgt := 14) (a := s.1 2 1) (b := 24) eX10_hint_9 (by decide) (ofz (hA _ _)) (ofz (r32l rfl)) (fun c9 => ?_) (fun c9 => ?_)
  · have h := h.1 c9
    refine q_aload_n eX10_hint_14 rfl ?_
    refine q_getR (c := 10) (n := 0) (k := 11) (a := 76) eX10_hint_15 rfl (by decide) (by decide) fX10_79 rfl rfl ?_
    refine q_aload_n eX10_hint_18 rfl ?_
    refine q_getR (c := 10) (n := 0) (k := 10) (a := 69) eX10_hint_19 rfl (by decide) (by decide) fX10_70 rfl rfl ?_
    refine q_V0 (ci := 1) (n := 0) eX10_hint_22 DX1_find lX10_209 rfl (by decide) rfl rfl rfl rfl (h.1 hA) ?_
    rintro _ _ ⟨s1, v1, rfl, hA1, rfl, h⟩
    refine q_V1 (ci := 3) (n := 0) eX10_hint_25 DX3_list lX10_217 rfl (by decide) rfl rfl rfl rfl (h.1 hA1) ?_
    rintro _ _ ⟨s2, rfl, hA2, rfl, h⟩
    refine q_aload_n eX10_hint_28 rfl ?_
    refine q_getR (c := 10) (n := 0) (k := 11) (a := 76) eX10_hint_29 rfl (by decide) (by decide) fX10_79 rfl rfl ?_
    refine q_iload_n eX10_hint_32 rfl ?_
    refine q_V1 (ci := 3) (n := 0) eX10_hint_33 DX3_has lX10_223 rfl (by decide) rfl rfl rfl rfl (p_X3_has hA2 hrp) ?_
    rintro _ _ ⟨b3, rfl, rfl⟩
    refine q_iz_ne (tgt := 41) (a := (F_X3_has s2 p)) eX10_hint_36 (by decide) (ofz (r01 b3)) (fun c36 => ?_) (fun c36 => ?_)
    · have h := h.1 (n_X3_has.mp c36)
      refine q_iload_n eX10_hint_41 rfl ?_
      refine q_tab3 68 78 88 98 eX10_hint_42 rfl rfl (by decide) (z := q) (ofz hrq) (fun c42 => ?_) (fun c42 => ?_) (fun c42 => ?_) (fun c42 => ?_)
      · have h := h.1 c42
        refine q_aload_n eX10_hint_68 rfl ?_
        refine q_getR (c := 10) (n := 0) (k := 11) (a := 76) eX10_hint_69 rfl (by decide) (by decide) fX10_79 rfl rfl ?_
        refine q_getR (c := 3) (n := 0) (k := 2) (a := 77) eX10_hint_72 rfl (by decide) (by decide) fX10_224 rfl rfl ?_
        refine q_iload_n eX10_hint_75 rfl ?_
        have f4 := h.1
        have h := h.2
        refine z_iald (n := 40) eX10_hint_76 rfl (ofz hrp) f4 ?_
        refine q_topI (v := Int32.ofInt (s2.1 77 p)) rfl ?_
        exact q_iret eX10_hint_77 rfl ⟨_, _, rfl, hA2, (hA2 _ _), rfl, h⟩
      · have h := h.2.1 c42
        refine q_aload_n eX10_hint_78 rfl ?_
        refine q_getR (c := 10) (n := 0) (k := 11) (a := 76) eX10_hint_79 rfl (by decide) (by decide) fX10_79 rfl rfl ?_
        refine q_getR (c := 3) (n := 0) (k := 3) (a := 78) eX10_hint_82 rfl (by decide) (by decide) fX10_227 rfl rfl ?_
        refine q_iload_n eX10_hint_85 rfl ?_
        have f5 := h.1
        have h := h.2
        refine z_iald (n := 40) eX10_hint_86 rfl (ofz hrp) f5 ?_
        refine q_topI (v := Int32.ofInt (s2.1 78 p)) rfl ?_
        exact q_iret eX10_hint_87 rfl ⟨_, _, rfl, hA2, (hA2 _ _), rfl, h⟩
      · have h := h.2.2.1 c42
        refine q_aload_n eX10_hint_88 rfl ?_
        refine q_getR (c := 10) (n := 0) (k := 11) (a := 76) eX10_hint_89 rfl (by decide) (by decide) fX10_79 rfl rfl ?_
        refine q_getR (c := 3) (n := 0) (k := 4) (a := 79) eX10_hint_92 rfl (by decide) (by decide) fX10_230 rfl rfl ?_
        refine q_iload_n eX10_hint_95 rfl ?_
        have f6 := h.1
        have h := h.2
        refine z_iald (n := 40) eX10_hint_96 rfl (ofz hrp) f6 ?_
        refine q_topI (v := Int32.ofInt (s2.1 79 p)) rfl ?_
        exact q_iret eX10_hint_97 rfl ⟨_, _, rfl, hA2, (hA2 _ _), rfl, h⟩
      · have h := h.2.2.2 c42
        refine q_ic (v := Int32.ofInt (-1)) eX10_hint_98 rfl ?_
        exact q_iret eX10_hint_99 rfl ⟨_, _, rfl, hA2, (r32l rfl), rfl, h⟩
    · have h := h.2 (fun q => n_X3_has.mpr q c36)
      refine q_ic (v := Int32.ofInt (-1)) eX10_hint_39 rfl ?_
      exact q_iret eX10_hint_40 rfl ⟨_, _, rfl, hA2, (r32l rfl), rfl, h⟩
  · have h := h.2 c9
    refine q_ic (v := Int32.ofInt (-1)) eX10_hint_12 rfl ?_
    exact q_iret eX10_hint_13 rfl ⟨_, _, rfl, hA, (r32l rfl), rfl, h⟩
theorem eX10_apply_0 : decode cX10_apply 0 = .ok (.aload_n 0, 1) := by decide +kernel
theorem eX10_apply_1 : decode cX10_apply 1 = .ok (.getfield 16, 3) := by decide +kernel
theorem eX10_apply_4 : decode cX10_apply 4 = .ok (.getfield 185, 3) := by decide +kernel
theorem eX10_apply_7 : decode cX10_apply 7 = .ok (.bipush 24, 2) := by decide +kernel
theorem eX10_apply_9 : decode cX10_apply 9 = .ok (.if_icmp .le 5, 3) := by decide +kernel
theorem eX10_apply_12 : decode cX10_apply 12 = .ok (.iconst (-1), 1) := by decide +kernel
theorem eX10_apply_13 : decode cX10_apply 13 = .ok (.ireturn, 1) := by decide +kernel
theorem eX10_apply_14 : decode cX10_apply 14 = .ok (.aload_n 0, 1) := by decide +kernel
theorem eX10_apply_15 : decode cX10_apply 15 = .ok (.getfield 79, 3) := by decide +kernel
theorem eX10_apply_18 : decode cX10_apply 18 = .ok (.aload_n 0, 1) := by decide +kernel
theorem eX10_apply_19 : decode cX10_apply 19 = .ok (.getfield 70, 3) := by decide +kernel
theorem eX10_apply_22 : decode cX10_apply 22 = .ok (.invokevirtual 209, 3) := by decide +kernel
theorem eX10_apply_25 : decode cX10_apply 25 = .ok (.invokevirtual 217, 3) := by decide +kernel
theorem eX10_apply_28 : decode cX10_apply 28 = .ok (.aload_n 0, 1) := by decide +kernel
theorem eX10_apply_29 : decode cX10_apply 29 = .ok (.getfield 79, 3) := by decide +kernel
theorem eX10_apply_32 : decode cX10_apply 32 = .ok (.iload_n 1, 1) := by decide +kernel
theorem eX10_apply_33 : decode cX10_apply 33 = .ok (.invokevirtual 223, 3) := by decide +kernel
theorem eX10_apply_36 : decode cX10_apply 36 = .ok (.ifCond .ne 5, 3) := by decide +kernel
theorem eX10_apply_39 : decode cX10_apply 39 = .ok (.iconst (-1), 1) := by decide +kernel
theorem eX10_apply_40 : decode cX10_apply 40 = .ok (.ireturn, 1) := by decide +kernel
theorem eX10_apply_41 : decode cX10_apply 41 = .ok (.aload_n 0, 1) := by decide +kernel
theorem eX10_apply_42 : decode cX10_apply 42 = .ok (.getfield 23, 3) := by decide +kernel
theorem eX10_apply_45 : decode cX10_apply 45 = .ok (.aload_n 0, 1) := by decide +kernel
theorem eX10_apply_46 : decode cX10_apply 46 = .ok (.getfield 16, 3) := by decide +kernel
theorem eX10_apply_49 : decode cX10_apply 49 = .ok (.aload_n 0, 1) := by decide +kernel
theorem eX10_apply_50 : decode cX10_apply 50 = .ok (.getfield 79, 3) := by decide +kernel
theorem eX10_apply_53 : decode cX10_apply 53 = .ok (.getfield 224, 3) := by decide +kernel
theorem eX10_apply_56 : decode cX10_apply 56 = .ok (.iload_n 1, 1) := by decide +kernel
theorem eX10_apply_57 : decode cX10_apply 57 = .ok (.iaload, 1) := by decide +kernel
theorem eX10_apply_58 : decode cX10_apply 58 = .ok (.aload_n 0, 1) := by decide +kernel
theorem eX10_apply_59 : decode cX10_apply 59 = .ok (.getfield 79, 3) := by decide +kernel
theorem eX10_apply_62 : decode cX10_apply 62 = .ok (.getfield 227, 3) := by decide +kernel
theorem eX10_apply_65 : decode cX10_apply 65 = .ok (.iload_n 1, 1) := by decide +kernel
theorem eX10_apply_66 : decode cX10_apply 66 = .ok (.iaload, 1) := by decide +kernel
theorem eX10_apply_67 : decode cX10_apply 67 = .ok (.aload_n 0, 1) := by decide +kernel
theorem eX10_apply_68 : decode cX10_apply 68 = .ok (.getfield 79, 3) := by decide +kernel
theorem eX10_apply_71 : decode cX10_apply 71 = .ok (.getfield 230, 3) := by decide +kernel
theorem eX10_apply_74 : decode cX10_apply 74 = .ok (.iload_n 1, 1) := by decide +kernel
theorem eX10_apply_75 : decode cX10_apply 75 = .ok (.iaload, 1) := by decide +kernel
theorem eX10_apply_76 : decode cX10_apply 76 = .ok (.invokevirtual 233, 3) := by decide +kernel
theorem eX10_apply_79 : decode cX10_apply 79 = .ok (.aload_n 0, 1) := by decide +kernel
theorem eX10_apply_80 : decode cX10_apply 80 = .ok (.aload_n 0, 1) := by decide +kernel
theorem eX10_apply_81 : decode cX10_apply 81 = .ok (.getfield 23, 3) := by decide +kernel
theorem eX10_apply_84 : decode cX10_apply 84 = .ok (.getfield 36, 3) := by decide +kernel
theorem eX10_apply_87 : decode cX10_apply 87 = .ok (.invokevirtual 129, 3) := by decide +kernel
theorem eX10_apply_90 : decode cX10_apply 90 = .ok (.ireturn, 1) := by decide +kernel
def C_X10_apply (s : ST) (p : Int) (Q : ST → Int → Prop) : Prop := bx <| RA s → R32 p → q_met mX10_apply (qs layX s) [.ref 0, .int (Int32.ofInt p)] (PI layX Q)
theorem C_X10_apply.mono {s : ST} {p : Int} {Q Q' : ST → Int → Prop} (h : C_X10_apply s p Q) (hq : ∀ s v, Q s v → Q' s v) : C_X10_apply s p Q' := ⟨fun hA hrp => q_met.mono (h.1 hA hrp) (fun _ _ => PI.mono hq), trivial⟩
set_option maxRecDepth 20000 in
theorem s_X10_apply {s : ST} {p : Int} {Q : ST → Int → Prop} (h : RA s → R32 p → ((s.1 2 1 ≤ 24 → (C_X1_find s (fun s1 v1 => (C_X3_list s1 v1 (fun s2 => (((¬ p < 0 ∧ (¬ s2.1 76 1 ≤ p ∧ ¬ 40 ≤ p)) → (((0 : Int) ≤ p ∧ p < 40) ∧ (C_X2_write 2 s2 (s2.1 77 p) (s2.1 78 p) (s2.1 79 p) (fun s5 => (C_X10_goOnWith 18 s5 (fun s6 v6 => Q s6 v6)))))) ∧ (¬ (¬ p < 0 ∧ (¬ s2.1 76 1 ≤ p ∧ ¬ 40 ≤ p)) → Q s2 (-1)))))))) ∧ (¬ s.1 2 1 ≤ 24 → Q s (-1)))) : C_X10_apply s p Q := by
  refine ⟨?_, trivial⟩
  intro hA hrp
  have h := h hA hrp
  refine q_enter (by decide) (Nat.le_of_ble_eq_true rfl) ?_
  refine q_aload_n eX10_apply_0 rfl ?_
  refine q_getR (c := 10) (n := 0) (k := 3) (a := 2) eX10_apply_1 rfl (by decide) (by decide) fX10_16 rfl rfl ?_
  refine q_getf (c := 9) (n := 0) (k := 1) (v := .int (Int32.ofInt (s.1 2 1))) eX10_apply_4 rfl (by decide) (by decide) fX10_185 rfl ?_
  refine q_bi (v := Int32.ofInt 24) eX10_apply_7 rfl ?_
  refine q_cz_le (tgt := 14) (a := s.1 2 1) (b := 24) eX10_apply_9 (by decide) (ofz (hA _ _)) (ofz (r32l rfl)) (fun c9 => ?_) (fun c9 => ?_)
  · have h := h.1 c9
    refine q_aload_n eX10_apply_14 rfl ?_
    refine q_getR (c := 10) (n := 0) (k := 11) (a := 76) eX10_apply_15 rfl (by decide) (by decide) fX10_79 rfl rfl ?_
    refine q_aload_n eX10_apply_18 rfl ?_
    refine q_getR (c := 10) (n := 0) (k := 10) (a := 69) eX10_apply_19 rfl (by decide) (by decide) fX10_70 rfl rfl ?_
    refine q_V0 (ci := 1) (n := 0) eX10_apply_22 DX1_find lX10_209 rfl (by decide) rfl rfl rfl rfl (h.1 hA) ?_
    rintro _ _ ⟨s1, v1, rfl, hA1, rfl, h⟩
    refine q_V1 (ci := 3) (n := 0) eX10_apply_25 DX3_list lX10_217 rfl (by decide) rfl rfl rfl rfl (h.1 hA1) ?_
    rintro _ _ ⟨s2, rfl, hA2, rfl, h⟩
    refine q_aload_n eX10_apply_28 rfl ?_
    refine q_getR (c := 10) (n := 0) (k := 11) (a := 76) eX10_apply_29 rfl (by decide) (by decide) fX10_79 rfl rfl ?_
    refine q_iload_n eX10_apply_32 rfl ?_
    refine q_V1 (ci := 3) (n := 0) eX10_apply_33 DX3_has lX10_223 rfl (by decide) rfl rfl rfl rfl (p_X3_has hA2 hrp) ?_
    rintro _ _ ⟨b3, rfl, rfl⟩
    refine q_iz_ne (tgt := 41) (a := (F_X3_has s2 p)) eX10_apply_36 (by decide) (ofz (r01 b3)) (fun c36 => ?_) (fun c36 => ?_)
    · have h := h.1 (n_X3_has.mp c36)
      refine q_aload_n eX10_apply_41 rfl ?_
      refine q_getR (c := 10) (n := 0) (k := 4) (a := 17) eX10_apply_42 rfl (by decide) (by decide) fX10_23 rfl rfl ?_
      refine q_aload_n eX10_apply_45 rfl ?_
      refine q_getR (c := 10) (n := 0) (k := 3) (a := 2) eX10_apply_46 rfl (by decide) (by decide) fX10_16 rfl rfl ?_
      refine q_aload_n eX10_apply_49 rfl ?_
      refine q_getR (c := 10) (n := 0) (k := 11) (a := 76) eX10_apply_50 rfl (by decide) (by decide) fX10_79 rfl rfl ?_
      refine q_getR (c := 3) (n := 0) (k := 2) (a := 77) eX10_apply_53 rfl (by decide) (by decide) fX10_224 rfl rfl ?_
      refine q_iload_n eX10_apply_56 rfl ?_
      have f4 := h.1
      have h := h.2
      refine z_iald (n := 40) eX10_apply_57 rfl (ofz hrp) f4 ?_
      refine q_topI (v := Int32.ofInt (s2.1 77 p)) rfl ?_
      refine q_aload_n eX10_apply_58 rfl ?_
      refine q_getR (c := 10) (n := 0) (k := 11) (a := 76) eX10_apply_59 rfl (by decide) (by decide) fX10_79 rfl rfl ?_
      refine q_getR (c := 3) (n := 0) (k := 3) (a := 78) eX10_apply_62 rfl (by decide) (by decide) fX10_227 rfl rfl ?_
      refine q_iload_n eX10_apply_65 rfl ?_
      refine z_iald (n := 40) eX10_apply_66 rfl (ofz hrp) f4 ?_
      refine q_topI (v := Int32.ofInt (s2.1 78 p)) rfl ?_
      refine q_aload_n eX10_apply_67 rfl ?_
      refine q_getR (c := 10) (n := 0) (k := 11) (a := 76) eX10_apply_68 rfl (by decide) (by decide) fX10_79 rfl rfl ?_
      refine q_getR (c := 3) (n := 0) (k := 4) (a := 79) eX10_apply_71 rfl (by decide) (by decide) fX10_230 rfl rfl ?_
      refine q_iload_n eX10_apply_74 rfl ?_
      refine z_iald (n := 40) eX10_apply_75 rfl (ofz hrp) f4 ?_
      refine q_topI (v := Int32.ofInt (s2.1 79 p)) rfl ?_
      refine q_V4 (ci := 2) (n := 0) eX10_apply_76 DX2_write lX10_233 rfl (by decide) rfl rfl rfl rfl (h.1 (by decide) hA2 (hA2 _ _) (hA2 _ _) (hA2 _ _)) ?_
      rintro _ _ ⟨s5, rfl, hA5, rfl, h⟩
      refine q_aload_n eX10_apply_79 rfl ?_
      refine q_aload_n eX10_apply_80 rfl ?_
      refine q_getR (c := 10) (n := 0) (k := 4) (a := 17) eX10_apply_81 rfl (by decide) (by decide) fX10_23 rfl rfl ?_
      refine q_getR (c := 2) (n := 0) (k := 0) (a := 18) eX10_apply_84 rfl (by decide) (by decide) fX10_36 rfl rfl ?_
      refine q_V1 (ci := 10) (n := 0) eX10_apply_87 DX10_goOnWith lX10_129 rfl (by decide) rfl rfl rfl rfl (h.1 (by decide) hA5) ?_
      rintro _ _ ⟨s6, v6, rfl, hA6, r6, rfl, h⟩
      exact q_iret eX10_apply_90 rfl ⟨_, _, rfl, hA6, r6, rfl, h⟩
    · have h := h.2 (fun q => n_X3_has.mpr q c36)
      refine q_ic (v := Int32.ofInt (-1)) eX10_apply_39 rfl ?_
      exact q_iret eX10_apply_40 rfl ⟨_, _, rfl, hA2, (r32l rfl), rfl, h⟩
  · have h := h.2 c9
    refine q_ic (v := Int32.ofInt (-1)) eX10_apply_12 rfl ?_
    exact q_iret eX10_apply_13 rfl ⟨_, _, rfl, hA, (r32l rfl), rfl, h⟩
theorem eX10_run_0 : decode cX10_run 0 = .ok (.aload_n 0, 1) := by decide +kernel
theorem eX10_run_1 : decode cX10_run 1 = .ok (.getfield 16, 3) := by decide +kernel
theorem eX10_run_4 : decode cX10_run 4 = .ok (.getfield 237, 3) := by decide +kernel
theorem eX10_run_7 : decode cX10_run 7 = .ok (.ifCond .eq 12, 3) := by decide +kernel
theorem eX10_run_10 : decode cX10_run 10 = .ok (.iload_n 1, 1) := by decide +kernel
theorem eX10_run_11 : decode cX10_run 11 = .ok (.ifCond .lt 8, 3) := by decide +kernel
theorem eX10_run_14 : decode cX10_run 14 = .ok (.iload_n 1, 1) := by decide +kernel
theorem eX10_run_15 : decode cX10_run 15 = .ok (.iconst 1, 1) := by decide +kernel
theorem eX10_run_16 : decode cX10_run 16 = .ok (.if_icmp .le 5, 3) := by decide +kernel
theorem eX10_run_19 : decode cX10_run 19 = .ok (.iconst (-1), 1) := by decide +kernel
theorem eX10_run_20 : decode cX10_run 20 = .ok (.ireturn, 1) := by decide +kernel
theorem eX10_run_21 : decode cX10_run 21 = .ok (.aload_n 0, 1) := by decide +kernel
theorem eX10_run_22 : decode cX10_run 22 = .ok (.getfield 88, 3) := by decide +kernel
theorem eX10_run_25 : decode cX10_run 25 = .ok (.invokevirtual 240, 3) := by decide +kernel
theorem eX10_run_28 : decode cX10_run 28 = .ok (.iload_n 1, 1) := by decide +kernel
theorem eX10_run_29 : decode cX10_run 29 = .ok (.ifCond .ne 13, 3) := by decide +kernel
theorem eX10_run_32 : decode cX10_run 32 = .ok (.aload_n 0, 1) := by decide +kernel
theorem eX10_run_33 : decode cX10_run 33 = .ok (.getfield 88, 3) := by decide +kernel
theorem eX10_run_36 : decode cX10_run 36 = .ok (.getfield 243, 3) := by decide +kernel
theorem eX10_run_39 : decode cX10_run 39 = .ok (.goto 10, 3) := by decide +kernel
theorem eX10_run_42 : decode cX10_run 42 = .ok (.aload_n 0, 1) := by decide +kernel
theorem eX10_run_43 : decode cX10_run 43 = .ok (.getfield 88, 3) := by decide +kernel
theorem eX10_run_46 : decode cX10_run 46 = .ok (.getfield 246, 3) := by decide +kernel
theorem eX10_run_49 : decode cX10_run 49 = .ok (.ireturn, 1) := by decide +kernel
def C_X10_run (s : ST) (p : Int) (Q : ST → Int → Prop) : Prop := bx <| RA s → R32 p → q_met mX10_run (qs layX s) [.ref 0, .int (Int32.ofInt p)] (PI layX Q)
theorem C_X10_run.mono {s : ST} {p : Int} {Q Q' : ST → Int → Prop} (h : C_X10_run s p Q) (hq : ∀ s v, Q s v → Q' s v) : C_X10_run s p Q' := ⟨fun hA hrp => q_met.mono (h.1 hA hrp) (fun _ _ => PI.mono hq), trivial⟩
set_option maxRecDepth 20000 in
theorem s_X10_run {s : ST} {p : Int} {Q : ST → Int → Prop} (h : RA s → R32 p → ((s.1 2 0 = 0 → Q s (-1)) ∧ (¬ s.1 2 0 = 0 → ((p < 0 → Q s (-1)) ∧ (¬ p < 0 → ((p ≤ 1 → (C_X6_work s (fun s1 => ((¬ p = 0 → Q s1 (s1.1 80 1)) ∧ (p = 0 → Q s1 (s1.1 80 0)))))) ∧ (¬ p ≤ 1 → Q s (-1)))))))) : C_X10_run s p Q := by
  refine ⟨?_, trivial⟩
  intro hA hrp
  have h := h hA hrp
  refine q_enter (by decide) (Nat.le_of_ble_eq_true rfl) ?_
  refine q_aload_n eX10_run_0 rfl ?_
  refine q_getR (c := 10) (n := 0) (k := 3) (a := 2) eX10_run_1 rfl (by decide) (by decide) fX10_16 rfl rfl ?_
  refine q_getf (c := 9) (n := 0) (k := 0) (v := .int (Int32.ofInt (s.1 2 0))) eX10_run_4 rfl (by decide) (by decide) fX10_237 rfl ?_
  refine q_iz_eq (tgt := 19) (a := s.1 2 0) eX10_run_7 (by decide) (ofz (hA _ _)) (fun c7 => ?_) (fun c7 => ?_)
  · have h := h.1 c7
    refine q_ic (v := Int32.ofInt (-1)) eX10_run_19 rfl ?_
    exact q_iret eX10_run_20 rfl ⟨_, _, rfl, hA, (r32l rfl), rfl, h⟩
  · have h := h.2 c7
    refine q_iload_n eX10_run_10 rfl ?_
    refine q_iz_lt (tgt := 19) (a := p) eX10_run_11 (by decide) (ofz hrp) (fun c11 => ?_) (fun c11 => ?_)
    · have h := h.1 c11
      refine q_ic (v := Int32.ofInt (-1)) eX10_run_19 rfl ?_
      exact q_iret eX10_run_20 rfl ⟨_, _, rfl, hA, (r32l rfl), rfl, h⟩
    · have h := h.2 c11
      refine q_iload_n eX10_run_14 rfl ?_
      refine q_ic (v := Int32.ofInt 1) eX10_run_15 rfl ?_
      refine q_cz_le (tgt := 21) (a := p) (b := 1) eX10_run_16 (by decide) (ofz hrp) (ofz (r32l rfl)) (fun c16 => ?_) (fun c16 => ?_)
      · have h := h.1 c16
        refine q_aload_n eX10_run_21 rfl ?_
        refine q_getR (c := 10) (n := 0) (k := 12) (a := 80) eX10_run_22 rfl (by decide) (by decide) fX10_88 rfl rfl ?_
        refine q_V0 (ci := 6) (n := 0) eX10_run_25 DX6_work lX10_240 rfl (by decide) rfl rfl rfl rfl (h.1 hA) ?_
        rintro _ _ ⟨s1, rfl, hA1, rfl, h⟩
        refine q_iload_n eX10_run_28 rfl ?_
        refine q_iz_ne (tgt := 42) (a := p) eX10_run_29 (by decide) (ofz hrp) (fun c29 => ?_) (fun c29 => ?_)
        · have h := h.1 c29
          refine q_aload_n eX10_run_42 rfl ?_
          refine q_getR (c := 10) (n := 0) (k := 12) (a := 80) eX10_run_43 rfl (by decide) (by decide) fX10_88 rfl rfl ?_
          refine q_getf (c := 6) (n := 0) (k := 1) (v := .int (Int32.ofInt (s1.1 80 1))) eX10_run_46 rfl (by decide) (by decide) fX10_246 rfl ?_
          exact q_iret eX10_run_49 rfl ⟨_, _, rfl, hA1, (hA1 _ _), rfl, h⟩
        · have h := h.2 c29
          refine q_aload_n eX10_run_32 rfl ?_
          refine q_getR (c := 10) (n := 0) (k := 12) (a := 80) eX10_run_33 rfl (by decide) (by decide) fX10_88 rfl rfl ?_
          refine q_getf (c := 6) (n := 0) (k := 0) (v := .int (Int32.ofInt (s1.1 80 0))) eX10_run_36 rfl (by decide) (by decide) fX10_243 rfl ?_
          refine q_goto (tgt := 49) eX10_run_39 (by decide) ?_
          exact q_iret eX10_run_49 rfl ⟨_, _, rfl, hA1, (hA1 _ _), rfl, h⟩
      · have h := h.2 c16
        refine q_ic (v := Int32.ofInt (-1)) eX10_run_19 rfl ?_
        exact q_iret eX10_run_20 rfl ⟨_, _, rfl, hA, (r32l rfl), rfl, h⟩
theorem eX10_right_0 : decode cX10_right 0 = .ok (.aload_n 0, 1) := by decide +kernel
theorem eX10_right_1 : decode cX10_right 1 = .ok (.getfield 16, 3) := by decide +kernel
theorem eX10_right_4 : decode cX10_right 4 = .ok (.iload_n 1, 1) := by decide +kernel
theorem eX10_right_5 : decode cX10_right 5 = .ok (.invokevirtual 139, 3) := by decide +kernel
theorem eX10_right_8 : decode cX10_right 8 = .ok (.ifCond .ne 5, 3) := by decide +kernel
theorem eX10_right_11 : decode cX10_right 11 = .ok (.iconst (-1), 1) := by decide +kernel
theorem eX10_right_12 : decode cX10_right 12 = .ok (.ireturn, 1) := by decide +kernel
theorem eX10_right_13 : decode cX10_right 13 = .ok (.aload_n 0, 1) := by decide +kernel
theorem eX10_right_14 : decode cX10_right 14 = .ok (.getfield 95, 3) := by decide +kernel
theorem eX10_right_17 : decode cX10_right 17 = .ok (.iload_n 1, 1) := by decide +kernel
theorem eX10_right_18 : decode cX10_right 18 = .ok (.aload_n 0, 1) := by decide +kernel
theorem eX10_right_19 : decode cX10_right 19 = .ok (.getfield 249, 3) := by decide +kernel
theorem eX10_right_22 : decode cX10_right 22 = .ok (.invokevirtual 252, 3) := by decide +kernel
theorem eX10_right_25 : decode cX10_right 25 = .ok (.ireturn, 1) := by decide +kernel
def C_X10_right (s : ST) (p : Int) (Q : ST → Int → Prop) : Prop := bx <| RA s → R32 p → q_met mX10_right (qs layX s) [.ref 0, .int (Int32.ofInt p)] (PI layX Q)
theorem C_X10_right.mono {s : ST} {p : Int} {Q Q' : ST → Int → Prop} (h : C_X10_right s p Q) (hq : ∀ s v, Q s v → Q' s v) : C_X10_right s p Q' := ⟨fun hA hrp => q_met.mono (h.1 hA hrp) (fun _ _ => PI.mono hq), trivial⟩
set_option maxRecDepth 20000 in
theorem s_X10_right {s : ST} {p : Int} {Q : ST → Int → Prop} (h : RA s → R32 p → (((¬ p < 0 ∧ (¬ s.1 2 1 ≤ p ∧ ¬ 40 ≤ p)) → (C_X8_tell s p (s.1 0 2) (fun s2 v2 => Q s2 v2))) ∧ (¬ (¬ p < 0 ∧ (¬ s.1 2 1 ≤ p ∧ ¬ 40 ≤ p)) → Q s (-1)))) : C_X10_right s p Q := by
  refine ⟨?_, trivial⟩
  intro hA hrp
  have h := h hA hrp
  refine q_enter (by decide) (Nat.le_of_ble_eq_true rfl) ?_
  refine q_aload_n eX10_right_0 rfl ?_
  refine q_getR (c := 10) (n := 0) (k := 3) (a := 2) eX10_right_1 rfl (by decide) (by decide) fX10_16 rfl rfl ?_
  refine q_iload_n eX10_right_4 rfl ?_
  refine q_V1 (ci := 9) (n := 0) eX10_right_5 DX9_has lX10_139 rfl (by decide) rfl rfl rfl rfl (p_X9_has (by decide) hA hrp) ?_
  rintro _ _ ⟨b1, rfl, rfl⟩
  refine q_iz_ne (tgt := 13) (a := (F_X9_has 2 s p)) eX10_right_8 (by decide) (ofz (r01 b1)) (fun c8 => ?_) (fun c8 => ?_)
  · have h := h.1 (n_X9_has.mp c8)
    refine q_aload_n eX10_right_13 rfl ?_
    refine q_getR (c := 10) (n := 0) (k := 13) (a := 88) eX10_right_14 rfl (by decide) (by decide) fX10_95 rfl rfl ?_
    refine q_iload_n eX10_right_17 rfl ?_
    refine q_aload_n eX10_right_18 rfl ?_
    refine q_getf (c := 10) (n := 0) (k := 2) (v := .int (Int32.ofInt (s.1 0 2))) eX10_right_19 rfl (by decide) (by decide) fX10_249 rfl ?_
    refine q_V2 (ci := 8) (n := 0) eX10_right_22 DX8_tell lX10_252 rfl (by decide) rfl rfl rfl rfl (h.1 hA hrp (hA _ _)) ?_
    rintro _ _ ⟨s2, v2, rfl, hA2, r2, rfl, h⟩
    exact q_iret eX10_right_25 rfl ⟨_, _, rfl, hA2, r2, rfl, h⟩
  · have h := h.2 (fun q => n_X9_has.mpr q c8)
    refine q_ic (v := Int32.ofInt (-1)) eX10_right_11 rfl ?_
    exact q_iret eX10_right_12 rfl ⟨_, _, rfl, hA, (r32l rfl), rfl, h⟩
theorem eX10_untell_0 : decode cX10_untell 0 = .ok (.aload_n 0, 1) := by decide +kernel
theorem eX10_untell_1 : decode cX10_untell 1 = .ok (.getfield 95, 3) := by decide +kernel
theorem eX10_untell_4 : decode cX10_untell 4 = .ok (.iload_n 1, 1) := by decide +kernel
theorem eX10_untell_5 : decode cX10_untell 5 = .ok (.aload_n 0, 1) := by decide +kernel
theorem eX10_untell_6 : decode cX10_untell 6 = .ok (.getfield 249, 3) := by decide +kernel
theorem eX10_untell_9 : decode cX10_untell 9 = .ok (.invokevirtual 255, 3) := by decide +kernel
theorem eX10_untell_12 : decode cX10_untell 12 = .ok (.ireturn, 1) := by decide +kernel
def C_X10_untell (s : ST) (p : Int) (Q : ST → Int → Prop) : Prop := bx <| RA s → R32 p → q_met mX10_untell (qs layX s) [.ref 0, .int (Int32.ofInt p)] (PB layX Q)
theorem C_X10_untell.mono {s : ST} {p : Int} {Q Q' : ST → Int → Prop} (h : C_X10_untell s p Q) (hq : ∀ s v, Q s v → Q' s v) : C_X10_untell s p Q' := ⟨fun hA hrp => q_met.mono (h.1 hA hrp) (fun _ _ => PB.mono hq), trivial⟩
set_option maxRecDepth 20000 in
theorem s_X10_untell {s : ST} {p : Int} {Q : ST → Int → Prop} (h : RA s → R32 p → (C_X8_takeBack s p (s.1 0 2) (fun s1 v1 => (v1 = 0 ∨ v1 = 1) → Q s1 v1))) : C_X10_untell s p Q := by
  refine ⟨?_, trivial⟩
  intro hA hrp
  have h := h hA hrp
  refine q_enter (by decide) (Nat.le_of_ble_eq_true rfl) ?_
  refine q_aload_n eX10_untell_0 rfl ?_
  refine q_getR (c := 10) (n := 0) (k := 13) (a := 88) eX10_untell_1 rfl (by decide) (by decide) fX10_95 rfl rfl ?_
  refine q_iload_n eX10_untell_4 rfl ?_
  refine q_aload_n eX10_untell_5 rfl ?_
  refine q_getf (c := 10) (n := 0) (k := 2) (v := .int (Int32.ofInt (s.1 0 2))) eX10_untell_6 rfl (by decide) (by decide) fX10_249 rfl ?_
  refine q_V2 (ci := 8) (n := 0) eX10_untell_9 DX8_takeBack lX10_255 rfl (by decide) rfl rfl rfl rfl (h.1 hA hrp (hA _ _)) ?_
  rintro _ _ ⟨s1, v1, rfl, hA1, b1, rfl, h⟩
  have h := h b1
  exact q_zret eX10_untell_12 rfl (z01 b1) ⟨_, _, rfl, hA1, b1, rfl, h⟩
theorem eX10_later_0 : decode cX10_later 0 = .ok (.iload_n 1, 1) := by decide +kernel
theorem eX10_later_1 : decode cX10_later 1 = .ok (.ifCond .lt 22, 3) := by decide +kernel
theorem eX10_later_4 : decode cX10_later 4 = .ok (.iload_n 1, 1) := by decide +kernel
theorem eX10_later_5 : decode cX10_later 5 = .ok (.sipush 1000, 3) := by decide +kernel
theorem eX10_later_8 : decode cX10_later 8 = .ok (.if_icmp .gt 15, 3) := by decide +kernel
theorem eX10_later_11 : decode cX10_later 11 = .ok (.aload_n 0, 1) := by decide +kernel
theorem eX10_later_12 : decode cX10_later 12 = .ok (.getfield 249, 3) := by decide +kernel
theorem eX10_later_15 : decode cX10_later 15 = .ok (.iload_n 1, 1) := by decide +kernel
theorem eX10_later_16 : decode cX10_later 16 = .ok (.iadd, 1) := by decide +kernel
theorem eX10_later_17 : decode cX10_later 17 = .ok (.ldc_w 258, 3) := by decide +kernel
theorem eX10_later_20 : decode cX10_later 20 = .ok (.if_icmp .le 5, 3) := by decide +kernel
theorem eX10_later_23 : decode cX10_later 23 = .ok (.iconst (-1), 1) := by decide +kernel
theorem eX10_later_24 : decode cX10_later 24 = .ok (.ireturn, 1) := by decide +kernel
theorem eX10_later_25 : decode cX10_later 25 = .ok (.aload_n 0, 1) := by decide +kernel
theorem eX10_later_26 : decode cX10_later 26 = .ok (.dup, 1) := by decide +kernel
theorem eX10_later_27 : decode cX10_later 27 = .ok (.getfield 249, 3) := by decide +kernel
theorem eX10_later_30 : decode cX10_later 30 = .ok (.iload_n 1, 1) := by decide +kernel
theorem eX10_later_31 : decode cX10_later 31 = .ok (.iadd, 1) := by decide +kernel
theorem eX10_later_32 : decode cX10_later 32 = .ok (.putfield 249, 3) := by decide +kernel
theorem eX10_later_35 : decode cX10_later 35 = .ok (.aload_n 0, 1) := by decide +kernel
theorem eX10_later_36 : decode cX10_later 36 = .ok (.getfield 249, 3) := by decide +kernel
theorem eX10_later_39 : decode cX10_later 39 = .ok (.ireturn, 1) := by decide +kernel
def C_X10_later (s : ST) (p : Int) (Q : ST → Int → Prop) : Prop := bx <| RA s → R32 p → q_met mX10_later (qs layX s) [.ref 0, .int (Int32.ofInt p)] (PI layX Q)
theorem C_X10_later.mono {s : ST} {p : Int} {Q Q' : ST → Int → Prop} (h : C_X10_later s p Q) (hq : ∀ s v, Q s v → Q' s v) : C_X10_later s p Q' := ⟨fun hA hrp => q_met.mono (h.1 hA hrp) (fun _ _ => PI.mono hq), trivial⟩
set_option maxRecDepth 20000 in
theorem s_X10_later {s : ST} {p : Int} {Q : ST → Int → Prop} (h : RA s → R32 p → ((p < 0 → Q s (-1)) ∧ (¬ p < 0 → ((1000 < p → Q s (-1)) ∧ (¬ 1000 < p → (R32 (s.1 0 2 + p) ∧ (((s.1 0 2 + p) ≤ 100000 → Q (ui s 0 2 (s.1 0 2 + p)) (s.1 0 2 + p)) ∧ (¬ (s.1 0 2 + p) ≤ 100000 → Q s (-1))))))))) : C_X10_later s p Q := by
  refine ⟨?_, trivial⟩
  intro hA hrp
  have h := h hA hrp
  refine q_enter (by decide) (Nat.le_of_ble_eq_true rfl) ?_
  refine q_iload_n eX10_later_0 rfl ?_
  refine q_iz_lt (tgt := 23) (a := p) eX10_later_1 (by decide) (ofz hrp) (fun c1 => ?_) (fun c1 => ?_)
  · have h := h.1 c1
    refine q_ic (v := Int32.ofInt (-1)) eX10_later_23 rfl ?_
    exact q_iret eX10_later_24 rfl ⟨_, _, rfl, hA, (r32l rfl), rfl, h⟩
  · have h := h.2 c1
    refine q_iload_n eX10_later_4 rfl ?_
    refine q_si (v := Int32.ofInt 1000) eX10_later_5 rfl ?_
    refine q_cz_gt (tgt := 23) (a := p) (b := 1000) eX10_later_8 (by decide) (ofz hrp) (ofz (r32l rfl)) (fun c8 => ?_) (fun c8 => ?_)
    · have h := h.1 c8
      refine q_ic (v := Int32.ofInt (-1)) eX10_later_23 rfl ?_
      exact q_iret eX10_later_24 rfl ⟨_, _, rfl, hA, (r32l rfl), rfl, h⟩
    · have h := h.2 c8
      refine q_aload_n eX10_later_11 rfl ?_
      refine q_getf (c := 10) (n := 0) (k := 2) (v := .int (Int32.ofInt (s.1 0 2))) eX10_later_12 rfl (by decide) (by decide) fX10_249 rfl ?_
      refine q_iload_n eX10_later_15 rfl ?_
      refine z_iadd eX10_later_16 ?_
      have r1 := h.1
      have h := h.2
      refine q_ldcw (v := 100000) eX10_later_17 nX10_258 ?_
      refine q_topI (v := Int32.ofInt 100000) rfl ?_
      refine q_cz_le (tgt := 25) (a := (s.1 0 2 + p)) (b := 100000) eX10_later_20 (by decide) (ofz r1) (ofz (r32l rfl)) (fun c20 => ?_) (fun c20 => ?_)
      · have h := h.1 c20
        refine q_aload_n eX10_later_25 rfl ?_
        refine q_dup eX10_later_26 rfl ?_
        refine q_getf (c := 10) (n := 0) (k := 2) (v := .int (Int32.ofInt (s.1 0 2))) eX10_later_27 rfl (by decide) (by decide) fX10_249 rfl ?_
        refine q_iload_n eX10_later_30 rfl ?_
        refine z_iadd eX10_later_31 ?_
        refine z_putI (c := 10) (n := 0) (k := 2) (kz := 2) eX10_later_32 rfl (by decide) (by decide) fX10_249 rfl rfl rfl ?_
        refine q_aload_n eX10_later_35 rfl ?_
        refine q_getf (c := 10) (n := 0) (k := 2) (v := .int (Int32.ofInt (s.1 0 2 + p))) eX10_later_36 rfl (by decide) (by decide) fX10_249 rfl ?_
        exact q_iret eX10_later_39 rfl ⟨_, _, rfl, (ra_ui hA r1), r1, rfl, h⟩
      · have h := h.2 c20
        refine q_ic (v := Int32.ofInt (-1)) eX10_later_23 rfl ?_
        exact q_iret eX10_later_24 rfl ⟨_, _, rfl, hA, (r32l rfl), rfl, h⟩
theorem eX10_left_0 : decode cX10_left 0 = .ok (.aload_n 0, 1) := by decide +kernel
theorem eX10_left_1 : decode cX10_left 1 = .ok (.getfield 16, 3) := by decide +kernel
theorem eX10_left_4 : decode cX10_left 4 = .ok (.getfield 185, 3) := by decide +kernel
theorem eX10_left_7 : decode cX10_left 7 = .ok (.bipush 12, 2) := by decide +kernel
theorem eX10_left_9 : decode cX10_left 9 = .ok (.if_icmp .le 6, 3) := by decide +kernel
theorem eX10_left_12 : decode cX10_left 12 = .ok (.bipush (-2), 2) := by decide +kernel
theorem eX10_left_14 : decode cX10_left 14 = .ok (.ireturn, 1) := by decide +kernel
theorem eX10_left_15 : decode cX10_left 15 = .ok (.aload_n 0, 1) := by decide +kernel
theorem eX10_left_16 : decode cX10_left 16 = .ok (.getfield 61, 3) := by decide +kernel
theorem eX10_left_19 : decode cX10_left 19 = .ok (.aload_n 0, 1) := by decide +kernel
theorem eX10_left_20 : decode cX10_left 20 = .ok (.getfield 16, 3) := by decide +kernel
theorem eX10_left_23 : decode cX10_left 23 = .ok (.getfield 185, 3) := by decide +kernel
theorem eX10_left_26 : decode cX10_left 26 = .ok (.invokevirtual 188, 3) := by decide +kernel
theorem eX10_left_29 : decode cX10_left 29 = .ok (.aload_n 0, 1) := by decide +kernel
theorem eX10_left_30 : decode cX10_left 30 = .ok (.getfield 61, 3) := by decide +kernel
theorem eX10_left_33 : decode cX10_left 33 = .ok (.aload_n 0, 1) := by decide +kernel
theorem eX10_left_34 : decode cX10_left 34 = .ok (.getfield 95, 3) := by decide +kernel
theorem eX10_left_37 : decode cX10_left 37 = .ok (.iload_n 1, 1) := by decide +kernel
theorem eX10_left_38 : decode cX10_left 38 = .ok (.invokevirtual 259, 3) := by decide +kernel
theorem eX10_left_41 : decode cX10_left 41 = .ok (.invokevirtual 262, 3) := by decide +kernel
theorem eX10_left_44 : decode cX10_left 44 = .ok (.ireturn, 1) := by decide +kernel
def C_X10_left (s : ST) (p : Int) (Q : ST → Int → Prop) : Prop := bx <| RA s → R32 p → q_met mX10_left (qs layX s) [.ref 0, .int (Int32.ofInt p)] (PI layX Q)
theorem C_X10_left.mono {s : ST} {p : Int} {Q Q' : ST → Int → Prop} (h : C_X10_left s p Q) (hq : ∀ s v, Q s v → Q' s v) : C_X10_left s p Q' := ⟨fun hA hrp => q_met.mono (h.1 hA hrp) (fun _ _ => PI.mono hq), trivial⟩
set_option maxRecDepth 20000 in
theorem s_X10_left {s : ST} {p : Int} {Q : ST → Int → Prop} (h : RA s → R32 p → ((s.1 2 1 ≤ 12 → (C_X5_find s (s.1 2 1) (fun s1 => (C_X8_countingAt s1 p (fun s2 v2 => (C_X5_countBeside s2 v2 (fun s3 v3 => Q s3 v3))))))) ∧ (¬ s.1 2 1 ≤ 12 → Q s (-2)))) : C_X10_left s p Q := by
  refine ⟨?_, trivial⟩
  intro hA hrp
  have h := h hA hrp
  refine q_enter (by decide) (Nat.le_of_ble_eq_true rfl) ?_
  refine q_aload_n eX10_left_0 rfl ?_
  refine q_getR (c := 10) (n := 0) (k := 3) (a := 2) eX10_left_1 rfl (by decide) (by decide) fX10_16 rfl rfl ?_
  refine q_getf (c := 9) (n := 0) (k := 1) (v := .int (Int32.ofInt (s.1 2 1))) eX10_left_4 rfl (by decide) (by decide) fX10_185 rfl ?_
  refine q_bi (v := Int32.ofInt 12) eX10_left_7 rfl ?_
  refine q_cz_le (tgt := 15) (a := s.1 2 1) (b := 12) eX10_left_9 (by decide) (ofz (hA _ _)) (ofz (r32l rfl)) (fun c9 => ?_) (fun c9 => ?_)
  · have h := h.1 c9
    refine q_aload_n eX10_left_15 rfl ?_
    refine q_getR (c := 10) (n := 0) (k := 9) (a := 67) eX10_left_16 rfl (by decide) (by decide) fX10_61 rfl rfl ?_
    refine q_aload_n eX10_left_19 rfl ?_
    refine q_getR (c := 10) (n := 0) (k := 3) (a := 2) eX10_left_20 rfl (by decide) (by decide) fX10_16 rfl rfl ?_
    refine q_getf (c := 9) (n := 0) (k := 1) (v := .int (Int32.ofInt (s.1 2 1))) eX10_left_23 rfl (by decide) (by decide) fX10_185 rfl ?_
    refine q_V1 (ci := 5) (n := 0) eX10_left_26 DX5_find lX10_188 rfl (by decide) rfl rfl rfl rfl (h.1 hA (hA _ _)) ?_
    rintro _ _ ⟨s1, rfl, hA1, rfl, h⟩
    refine q_aload_n eX10_left_29 rfl ?_
    refine q_getR (c := 10) (n := 0) (k := 9) (a := 67) eX10_left_30 rfl (by decide) (by decide) fX10_61 rfl rfl ?_
    refine q_aload_n eX10_left_33 rfl ?_
    refine q_getR (c := 10) (n := 0) (k := 13) (a := 88) eX10_left_34 rfl (by decide) (by decide) fX10_95 rfl rfl ?_
    refine q_iload_n eX10_left_37 rfl ?_
    refine q_V1 (ci := 8) (n := 0) eX10_left_38 DX8_countingAt lX10_259 rfl (by decide) rfl rfl rfl rfl (h.1 hA1 hrp) ?_
    rintro _ _ ⟨s2, v2, rfl, hA2, rfl, h⟩
    refine q_V1 (ci := 5) (n := 0) eX10_left_41 DX5_countBeside lX10_262 rfl (by decide) rfl rfl rfl rfl (h.1 hA2) ?_
    rintro _ _ ⟨s3, v3, rfl, hA3, r3, rfl, h⟩
    exact q_iret eX10_left_44 rfl ⟨_, _, rfl, hA3, r3, rfl, h⟩
  · have h := h.2 c9
    refine q_bi (v := Int32.ofInt (-2)) eX10_left_12 rfl ?_
    exact q_iret eX10_left_14 rfl ⟨_, _, rfl, hA, (r32l rfl), rfl, h⟩
theorem eX10_sure_0 : decode cX10_sure 0 = .ok (.aload_n 0, 1) := by decide +kernel
theorem eX10_sure_1 : decode cX10_sure 1 = .ok (.getfield 16, 3) := by decide +kernel
theorem eX10_sure_4 : decode cX10_sure 4 = .ok (.getfield 185, 3) := by decide +kernel
theorem eX10_sure_7 : decode cX10_sure 7 = .ok (.bipush 12, 2) := by decide +kernel
theorem eX10_sure_9 : decode cX10_sure 9 = .ok (.if_icmp .le 7, 3) := by decide +kernel
theorem eX10_sure_12 : decode cX10_sure 12 = .ok (.ldc2_w 207, 3) := by decide +kernel
theorem eX10_sure_15 : decode cX10_sure 15 = .ok (.lreturn, 1) := by decide +kernel
theorem eX10_sure_16 : decode cX10_sure 16 = .ok (.aload_n 0, 1) := by decide +kernel
theorem eX10_sure_17 : decode cX10_sure 17 = .ok (.getfield 61, 3) := by decide +kernel
theorem eX10_sure_20 : decode cX10_sure 20 = .ok (.aload_n 0, 1) := by decide +kernel
theorem eX10_sure_21 : decode cX10_sure 21 = .ok (.getfield 16, 3) := by decide +kernel
theorem eX10_sure_24 : decode cX10_sure 24 = .ok (.getfield 185, 3) := by decide +kernel
theorem eX10_sure_27 : decode cX10_sure 27 = .ok (.invokevirtual 188, 3) := by decide +kernel
theorem eX10_sure_30 : decode cX10_sure 30 = .ok (.aload_n 0, 1) := by decide +kernel
theorem eX10_sure_31 : decode cX10_sure 31 = .ok (.getfield 61, 3) := by decide +kernel
theorem eX10_sure_34 : decode cX10_sure 34 = .ok (.aload_n 0, 1) := by decide +kernel
theorem eX10_sure_35 : decode cX10_sure 35 = .ok (.getfield 95, 3) := by decide +kernel
theorem eX10_sure_38 : decode cX10_sure 38 = .ok (.iload_n 1, 1) := by decide +kernel
theorem eX10_sure_39 : decode cX10_sure 39 = .ok (.invokevirtual 259, 3) := by decide +kernel
theorem eX10_sure_42 : decode cX10_sure 42 = .ok (.invokevirtual 266, 3) := by decide +kernel
theorem eX10_sure_45 : decode cX10_sure 45 = .ok (.lreturn, 1) := by decide +kernel
def C_X10_sure (s : ST) (p : Int) (Q : ST → Int64 → Prop) : Prop := bx <| RA s → R32 p → q_met mX10_sure (qs layX s) [.ref 0, .int (Int32.ofInt p)] (PL layX Q)
theorem C_X10_sure.mono {s : ST} {p : Int} {Q Q' : ST → Int64 → Prop} (h : C_X10_sure s p Q) (hq : ∀ s v, Q s v → Q' s v) : C_X10_sure s p Q' := ⟨fun hA hrp => q_met.mono (h.1 hA hrp) (fun _ _ => PL.mono hq), trivial⟩
set_option maxRecDepth 20000 in
theorem s_X10_sure {s : ST} {p : Int} {Q : ST → Int64 → Prop} (h : RA s → R32 p → ((s.1 2 1 ≤ 12 → (C_X5_find s (s.1 2 1) (fun s1 => (C_X8_countingAt s1 p (fun s2 v2 => (C_X5_commonBeside s2 v2 (fun s3 v3 => Q s3 v3))))))) ∧ (¬ s.1 2 1 ≤ 12 → Q s (-2)))) : C_X10_sure s p Q := by
  refine ⟨?_, trivial⟩
  intro hA hrp
  have h := h hA hrp
  refine q_enter (by decide) (Nat.le_of_ble_eq_true rfl) ?_
  refine q_aload_n eX10_sure_0 rfl ?_
  refine q_getR (c := 10) (n := 0) (k := 3) (a := 2) eX10_sure_1 rfl (by decide) (by decide) fX10_16 rfl rfl ?_
  refine q_getf (c := 9) (n := 0) (k := 1) (v := .int (Int32.ofInt (s.1 2 1))) eX10_sure_4 rfl (by decide) (by decide) fX10_185 rfl ?_
  refine q_bi (v := Int32.ofInt 12) eX10_sure_7 rfl ?_
  refine q_cz_le (tgt := 16) (a := s.1 2 1) (b := 12) eX10_sure_9 (by decide) (ofz (hA _ _)) (ofz (r32l rfl)) (fun c9 => ?_) (fun c9 => ?_)
  · have h := h.1 c9
    refine q_aload_n eX10_sure_16 rfl ?_
    refine q_getR (c := 10) (n := 0) (k := 9) (a := 67) eX10_sure_17 rfl (by decide) (by decide) fX10_61 rfl rfl ?_
    refine q_aload_n eX10_sure_20 rfl ?_
    refine q_getR (c := 10) (n := 0) (k := 3) (a := 2) eX10_sure_21 rfl (by decide) (by decide) fX10_16 rfl rfl ?_
    refine q_getf (c := 9) (n := 0) (k := 1) (v := .int (Int32.ofInt (s.1 2 1))) eX10_sure_24 rfl (by decide) (by decide) fX10_185 rfl ?_
    refine q_V1 (ci := 5) (n := 0) eX10_sure_27 DX5_find lX10_188 rfl (by decide) rfl rfl rfl rfl (h.1 hA (hA _ _)) ?_
    rintro _ _ ⟨s1, rfl, hA1, rfl, h⟩
    refine q_aload_n eX10_sure_30 rfl ?_
    refine q_getR (c := 10) (n := 0) (k := 9) (a := 67) eX10_sure_31 rfl (by decide) (by decide) fX10_61 rfl rfl ?_
    refine q_aload_n eX10_sure_34 rfl ?_
    refine q_getR (c := 10) (n := 0) (k := 13) (a := 88) eX10_sure_35 rfl (by decide) (by decide) fX10_95 rfl rfl ?_
    refine q_iload_n eX10_sure_38 rfl ?_
    refine q_V1 (ci := 8) (n := 0) eX10_sure_39 DX8_countingAt lX10_259 rfl (by decide) rfl rfl rfl rfl (h.1 hA1 hrp) ?_
    rintro _ _ ⟨s2, v2, rfl, hA2, rfl, h⟩
    refine q_V1 (ci := 5) (n := 0) eX10_sure_42 DX5_commonBeside lX10_266 rfl (by decide) rfl rfl rfl rfl (h.1 hA2) ?_
    rintro _ _ ⟨s3, v3, rfl, hA3, rfl, h⟩
    exact q_lret eX10_sure_45 rfl ⟨_, _, rfl, hA3, rfl, h⟩
  · have h := h.2 c9
    refine q_ldc2 (v := (-2)) eX10_sure_12 nX10_207 ?_
    exact q_lret eX10_sure_15 rfl ⟨_, _, rfl, hA, rfl, h⟩
theorem eX10_image_0 : decode cX10_image 0 = .ok (.iload_n 1, 1) := by decide +kernel
theorem eX10_image_1 : decode cX10_image 1 = .ok (.ifCond .lt 8, 3) := by decide +kernel
theorem eX10_image_4 : decode cX10_image 4 = .ok (.iload_n 1, 1) := by decide +kernel
theorem eX10_image_5 : decode cX10_image 5 = .ok (.iconst 3, 1) := by decide +kernel
theorem eX10_image_6 : decode cX10_image 6 = .ok (.if_icmp .lt 5, 3) := by decide +kernel
theorem eX10_image_9 : decode cX10_image 9 = .ok (.iconst (-1), 1) := by decide +kernel
theorem eX10_image_10 : decode cX10_image 10 = .ok (.ireturn, 1) := by decide +kernel
theorem eX10_image_11 : decode cX10_image 11 = .ok (.aload_n 0, 1) := by decide +kernel
theorem eX10_image_12 : decode cX10_image 12 = .ok (.getfield 99, 3) := by decide +kernel
theorem eX10_image_15 : decode cX10_image 15 = .ok (.iload_n 1, 1) := by decide +kernel
theorem eX10_image_16 : decode cX10_image 16 = .ok (.aaload, 1) := by decide +kernel
theorem eX10_image_17 : decode cX10_image 17 = .ok (.aload_n 0, 1) := by decide +kernel
theorem eX10_image_18 : decode cX10_image 18 = .ok (.getfield 16, 3) := by decide +kernel
theorem eX10_image_21 : decode cX10_image 21 = .ok (.invokevirtual 270, 3) := by decide +kernel
theorem eX10_image_24 : decode cX10_image 24 = .ok (.aload_n 0, 1) := by decide +kernel
theorem eX10_image_25 : decode cX10_image 25 = .ok (.getfield 103, 3) := by decide +kernel
theorem eX10_image_28 : decode cX10_image 28 = .ok (.iload_n 1, 1) := by decide +kernel
theorem eX10_image_29 : decode cX10_image 29 = .ok (.iconst 1, 1) := by decide +kernel
theorem eX10_image_30 : decode cX10_image 30 = .ok (.bastore, 1) := by decide +kernel
theorem eX10_image_31 : decode cX10_image 31 = .ok (.aload_n 0, 1) := by decide +kernel
theorem eX10_image_32 : decode cX10_image 32 = .ok (.getfield 16, 3) := by decide +kernel
theorem eX10_image_35 : decode cX10_image 35 = .ok (.getfield 185, 3) := by decide +kernel
theorem eX10_image_38 : decode cX10_image 38 = .ok (.ireturn, 1) := by decide +kernel
def C_X10_image (s : ST) (p : Int) (Q : ST → Int → Prop) : Prop := bx <| RA s → R32 p → q_met mX10_image (qs layX s) [.ref 0, .int (Int32.ofInt p)] (PI layX Q)
theorem C_X10_image.mono {s : ST} {p : Int} {Q Q' : ST → Int → Prop} (h : C_X10_image s p Q) (hq : ∀ s v, Q s v → Q' s v) : C_X10_image s p Q' := ⟨fun hA hrp => q_met.mono (h.1 hA hrp) (fun _ _ => PI.mono hq), trivial⟩
set_option maxRecDepth 20000 in
theorem s_X10_image {s : ST} {p : Int} {Q : ST → Int → Prop} (h : RA s → R32 p → ((p < 0 → Q s (-1)) ∧ (¬ p < 0 → ((p < 3 → (((0 : Int) ≤ p ∧ p < 3) ∧ (C_X9_copyFrom (boxT p) 2 s (fun s2 => Q (ui s2 93 p 1) (s2.1 2 1))))) ∧ (¬ p < 3 → Q s (-1)))))) : C_X10_image s p Q := by
  refine ⟨?_, trivial⟩
  intro hA hrp
  have h := h hA hrp
  refine q_enter (by decide) (Nat.le_of_ble_eq_true rfl) ?_
  refine q_iload_n eX10_image_0 rfl ?_
  refine q_iz_lt (tgt := 9) (a := p) eX10_image_1 (by decide) (ofz hrp) (fun c1 => ?_) (fun c1 => ?_)
  · have h := h.1 c1
    refine q_ic (v := Int32.ofInt (-1)) eX10_image_9 rfl ?_
    exact q_iret eX10_image_10 rfl ⟨_, _, rfl, hA, (r32l rfl), rfl, h⟩
  · have h := h.2 c1
    refine q_iload_n eX10_image_4 rfl ?_
    refine q_ic (v := Int32.ofInt 3) eX10_image_5 rfl ?_
    refine q_cz_lt (tgt := 11) (a := p) (b := 3) eX10_image_6 (by decide) (ofz hrp) (ofz (r32l rfl)) (fun c6 => ?_) (fun c6 => ?_)
    · have h := h.1 c6
      refine q_aload_n eX10_image_11 rfl ?_
      refine q_getR (c := 10) (n := 0) (k := 14) (a := 92) eX10_image_12 rfl (by decide) (by decide) fX10_99 rfl rfl ?_
      refine q_iload_n eX10_image_15 rfl ?_
      have f1 := h.1
      have h := h.2
      refine z_box eX10_image_16 (ofz hrp) f1 ?_
      refine q_aload_n eX10_image_17 rfl ?_
      refine q_getR (c := 10) (n := 0) (k := 3) (a := 2) eX10_image_18 rfl (by decide) (by decide) fX10_16 rfl rfl ?_
      refine q_V1 (ci := 9) (n := 0) eX10_image_21 DX9_copyFrom lX10_270 (tl_0 (boxT_ok f1)) (by decide) rfl rfl rfl rfl (h.1 (boxT_ok f1) (by decide) hA) ?_
      rintro _ _ ⟨s2, rfl, hA2, rfl, h⟩
      refine q_aload_n eX10_image_24 rfl ?_
      refine q_getR (c := 10) (n := 0) (k := 15) (a := 93) eX10_image_25 rfl (by decide) (by decide) fX10_103 rfl rfl ?_
      refine q_iload_n eX10_image_28 rfl ?_
      refine q_ic (v := Int32.ofInt 1) eX10_image_29 rfl ?_
      refine z_zast (n := 3) eX10_image_30 rfl (ofz hrp) f1 (z01 (Or.inr rfl)) ?_
      refine q_aload_n eX10_image_31 rfl ?_
      refine q_getR (c := 10) (n := 0) (k := 3) (a := 2) eX10_image_32 rfl (by decide) (by decide) fX10_16 rfl rfl ?_
      refine q_getf (c := 9) (n := 0) (k := 1) (v := .int (Int32.ofInt (s2.1 2 1))) eX10_image_35 rfl (by decide) (by decide) fX10_185 rfl ?_
      exact q_iret eX10_image_38 rfl ⟨_, _, rfl, (ra_ui hA2 (r32l rfl)), (hA2 _ _), rfl, h⟩
    · have h := h.2 c6
      refine q_ic (v := Int32.ofInt (-1)) eX10_image_9 rfl ?_
      exact q_iret eX10_image_10 rfl ⟨_, _, rfl, hA, (r32l rfl), rfl, h⟩
theorem eX10_back_0 : decode cX10_back 0 = .ok (.iload_n 1, 1) := by decide +kernel
theorem eX10_back_1 : decode cX10_back 1 = .ok (.ifCond .lt 17, 3) := by decide +kernel
theorem eX10_back_4 : decode cX10_back 4 = .ok (.iload_n 1, 1) := by decide +kernel
theorem eX10_back_5 : decode cX10_back 5 = .ok (.iconst 3, 1) := by decide +kernel
theorem eX10_back_6 : decode cX10_back 6 = .ok (.if_icmp .ge 12, 3) := by decide +kernel
theorem eX10_back_9 : decode cX10_back 9 = .ok (.aload_n 0, 1) := by decide +kernel
theorem eX10_back_10 : decode cX10_back 10 = .ok (.getfield 103, 3) := by decide +kernel
theorem eX10_back_13 : decode cX10_back 13 = .ok (.iload_n 1, 1) := by decide +kernel
theorem eX10_back_14 : decode cX10_back 14 = .ok (.baload, 1) := by decide +kernel
theorem eX10_back_15 : decode cX10_back 15 = .ok (.ifCond .ne 5, 3) := by decide +kernel
theorem eX10_back_18 : decode cX10_back 18 = .ok (.iconst (-1), 1) := by decide +kernel
theorem eX10_back_19 : decode cX10_back 19 = .ok (.ireturn, 1) := by decide +kernel
theorem eX10_back_20 : decode cX10_back 20 = .ok (.aload_n 0, 1) := by decide +kernel
theorem eX10_back_21 : decode cX10_back 21 = .ok (.aload_n 0, 1) := by decide +kernel
theorem eX10_back_22 : decode cX10_back 22 = .ok (.getfield 99, 3) := by decide +kernel
theorem eX10_back_25 : decode cX10_back 25 = .ok (.iload_n 1, 1) := by decide +kernel
theorem eX10_back_26 : decode cX10_back 26 = .ok (.aaload, 1) := by decide +kernel
theorem eX10_back_27 : decode cX10_back 27 = .ok (.invokevirtual 129, 3) := by decide +kernel
theorem eX10_back_30 : decode cX10_back 30 = .ok (.ireturn, 1) := by decide +kernel
def C_X10_back (s : ST) (p : Int) (Q : ST → Int → Prop) : Prop := bx <| RA s → R32 p → q_met mX10_back (qs layX s) [.ref 0, .int (Int32.ofInt p)] (PI layX Q)
theorem C_X10_back.mono {s : ST} {p : Int} {Q Q' : ST → Int → Prop} (h : C_X10_back s p Q) (hq : ∀ s v, Q s v → Q' s v) : C_X10_back s p Q' := ⟨fun hA hrp => q_met.mono (h.1 hA hrp) (fun _ _ => PI.mono hq), trivial⟩
set_option maxRecDepth 20000 in
theorem s_X10_back {s : ST} {p : Int} {Q : ST → Int → Prop} (h : RA s → R32 p → ((p < 0 → Q s (-1)) ∧ (¬ p < 0 → ((3 ≤ p → Q s (-1)) ∧ (¬ 3 ≤ p → (((0 : Int) ≤ p ∧ p < 3) ∧ ((¬ s.1 93 p = 0 → (C_X10_goOnWith (boxT p) s (fun s2 v2 => Q s2 v2))) ∧ (s.1 93 p = 0 → Q s (-1))))))))) : C_X10_back s p Q := by
  refine ⟨?_, trivial⟩
  intro hA hrp
  have h := h hA hrp
  refine q_enter (by decide) (Nat.le_of_ble_eq_true rfl) ?_
  refine q_iload_n eX10_back_0 rfl ?_
  refine q_iz_lt (tgt := 18) (a := p) eX10_back_1 (by decide) (ofz hrp) (fun c1 => ?_) (fun c1 => ?_)
  · have h := h.1 c1
    refine q_ic (v := Int32.ofInt (-1)) eX10_back_18 rfl ?_
    exact q_iret eX10_back_19 rfl ⟨_, _, rfl, hA, (r32l rfl), rfl, h⟩
  · have h := h.2 c1
    refine q_iload_n eX10_back_4 rfl ?_
    refine q_ic (v := Int32.ofInt 3) eX10_back_5 rfl ?_
    refine q_cz_ge (tgt := 18) (a := p) (b := 3) eX10_back_6 (by decide) (ofz hrp) (ofz (r32l rfl)) (fun c6 => ?_) (fun c6 => ?_)
    · have h := h.1 c6
      refine q_ic (v := Int32.ofInt (-1)) eX10_back_18 rfl ?_
      exact q_iret eX10_back_19 rfl ⟨_, _, rfl, hA, (r32l rfl), rfl, h⟩
    · have h := h.2 c6
      refine q_aload_n eX10_back_9 rfl ?_
      refine q_getR (c := 10) (n := 0) (k := 15) (a := 93) eX10_back_10 rfl (by decide) (by decide) fX10_103 rfl rfl ?_
      refine q_iload_n eX10_back_13 rfl ?_
      have f1 := h.1
      have h := h.2
      refine z_zald (n := 3) eX10_back_14 rfl (ofz hrp) f1 ?_
      refine q_topI (v := Int32.ofInt (s.1 93 p)) rfl ?_
      refine q_iz_ne (tgt := 20) (a := s.1 93 p) eX10_back_15 (by decide) (ofz (hA _ _)) (fun c15 => ?_) (fun c15 => ?_)
      · have h := h.1 c15
        refine q_aload_n eX10_back_20 rfl ?_
        refine q_aload_n eX10_back_21 rfl ?_
        refine q_getR (c := 10) (n := 0) (k := 14) (a := 92) eX10_back_22 rfl (by decide) (by decide) fX10_99 rfl rfl ?_
        refine q_iload_n eX10_back_25 rfl ?_
        refine z_box eX10_back_26 (ofz hrp) f1 ?_
        refine q_V1 (ci := 10) (n := 0) eX10_back_27 DX10_goOnWith lX10_129 rfl (by decide) rfl rfl rfl rfl (h.1 (boxT_ok f1) hA) ?_
        rintro _ _ ⟨s2, v2, rfl, hA2, r2, rfl, h⟩
        exact q_iret eX10_back_30 rfl ⟨_, _, rfl, hA2, r2, rfl, h⟩
      · have h := h.2 c15
        refine q_ic (v := Int32.ofInt (-1)) eX10_back_18 rfl ?_
        exact q_iret eX10_back_19 rfl ⟨_, _, rfl, hA, (r32l rfl), rfl, h⟩
theorem eX10_about_0 : decode cX10_about 0 = .ok (.iload_n 1, 1) := by decide +kernel
theorem eX10_about_1 : decode cX10_about 1 = .ok (.tableswitch 93 0 6 #[43, 51, 59, 67, 75, 80, 85], 43) := by decide +kernel
theorem eX10_about_44 : decode cX10_about 44 = .ok (.aload_n 0, 1) := by decide +kernel
theorem eX10_about_45 : decode cX10_about 45 = .ok (.getfield 16, 3) := by decide +kernel
theorem eX10_about_48 : decode cX10_about 48 = .ok (.getfield 237, 3) := by decide +kernel
theorem eX10_about_51 : decode cX10_about 51 = .ok (.ireturn, 1) := by decide +kernel
theorem eX10_about_52 : decode cX10_about 52 = .ok (.aload_n 0, 1) := by decide +kernel
theorem eX10_about_53 : decode cX10_about 53 = .ok (.getfield 16, 3) := by decide +kernel
theorem eX10_about_56 : decode cX10_about 56 = .ok (.getfield 185, 3) := by decide +kernel
theorem eX10_about_59 : decode cX10_about 59 = .ok (.ireturn, 1) := by decide +kernel
theorem eX10_about_60 : decode cX10_about 60 = .ok (.aload_n 0, 1) := by decide +kernel
theorem eX10_about_61 : decode cX10_about 61 = .ok (.getfield 49, 3) := by decide +kernel
theorem eX10_about_64 : decode cX10_about 64 = .ok (.getfield 273, 3) := by decide +kernel
theorem eX10_about_67 : decode cX10_about 67 = .ok (.ireturn, 1) := by decide +kernel
theorem eX10_about_68 : decode cX10_about 68 = .ok (.aload_n 0, 1) := by decide +kernel
theorem eX10_about_69 : decode cX10_about 69 = .ok (.getfield 95, 3) := by decide +kernel
theorem eX10_about_72 : decode cX10_about 72 = .ok (.getfield 274, 3) := by decide +kernel
theorem eX10_about_75 : decode cX10_about 75 = .ok (.ireturn, 1) := by decide +kernel
theorem eX10_about_76 : decode cX10_about 76 = .ok (.aload_n 0, 1) := by decide +kernel
theorem eX10_about_77 : decode cX10_about 77 = .ok (.getfield 249, 3) := by decide +kernel
theorem eX10_about_80 : decode cX10_about 80 = .ok (.ireturn, 1) := by decide +kernel
theorem eX10_about_81 : decode cX10_about 81 = .ok (.aload_n 0, 1) := by decide +kernel
theorem eX10_about_82 : decode cX10_about 82 = .ok (.getfield 107, 3) := by decide +kernel
theorem eX10_about_85 : decode cX10_about 85 = .ok (.ireturn, 1) := by decide +kernel
theorem eX10_about_86 : decode cX10_about 86 = .ok (.aload_n 0, 1) := by decide +kernel
theorem eX10_about_87 : decode cX10_about 87 = .ok (.getfield 16, 3) := by decide +kernel
theorem eX10_about_90 : decode cX10_about 90 = .ok (.invokevirtual 275, 3) := by decide +kernel
theorem eX10_about_93 : decode cX10_about 93 = .ok (.ireturn, 1) := by decide +kernel
theorem eX10_about_94 : decode cX10_about 94 = .ok (.iconst (-1), 1) := by decide +kernel
theorem eX10_about_95 : decode cX10_about 95 = .ok (.ireturn, 1) := by decide +kernel
def C_X10_about (s : ST) (p : Int) (Q : ST → Int → Prop) : Prop := bx <| RA s → R32 p → q_met mX10_about (qs layX s) [.ref 0, .int (Int32.ofInt p)] (PI layX Q)
theorem C_X10_about.mono {s : ST} {p : Int} {Q Q' : ST → Int → Prop} (h : C_X10_about s p Q) (hq : ∀ s v, Q s v → Q' s v) : C_X10_about s p Q' := ⟨fun hA hrp => q_met.mono (h.1 hA hrp) (fun _ _ => PI.mono hq), trivial⟩
set_option maxRecDepth 20000 in
theorem s_X10_about {s : ST} {p : Int} {Q : ST → Int → Prop} (h : RA s → R32 p → ((p = 0 → Q s (s.1 2 0)) ∧ (p = 1 → Q s (s.1 2 1)) ∧ (p = 2 → Q s (s.1 51 0)) ∧ (p = 3 → Q s (s.1 88 0)) ∧ (p = 4 → Q s (s.1 0 2)) ∧ (p = 5 → Q s (s.1 0 1)) ∧ (p = 6 → (C_X9_trustOfAll 2 s (fun s1 v1 => Q s1 v1))) ∧ ((p < 0 ∨ 6 < p) → Q s (-1)))) : C_X10_about s p Q := by
  refine ⟨?_, trivial⟩
  intro hA hrp
  have h := h hA hrp
  refine q_enter (by decide) (Nat.le_of_ble_eq_true rfl) ?_
  refine q_iload_n eX10_about_0 rfl ?_
  refine q_tab7 44 52 60 68 76 81 86 94 eX10_about_1 rfl rfl (by decide) (z := p) (ofz hrp) (fun c1 => ?_) (fun c1 => ?_) (fun c1 => ?_) (fun c1 => ?_) (fun c1 => ?_) (fun c1 => ?_) (fun c1 => ?_) (fun c1 => ?_)
  · have h := h.1 c1
    refine q_aload_n eX10_about_44 rfl ?_
    refine q_getR (c := 10) (n := 0) (k := 3) (a := 2) eX10_about_45 rfl (by decide) (by decide) fX10_16 rfl rfl ?_
    refine q_getf (c := 9) (n := 0) (k := 0) (v := .int (Int32.ofInt (s.1 2 0))) eX10_about_48 rfl (by decide) (by decide) fX10_237 rfl ?_
    exact q_iret eX10_about_51 rfl ⟨_, _, rfl, hA, (hA _ _), rfl, h⟩
  · have h := h.2.1 c1
    refine q_aload_n eX10_about_52 rfl ?_
    refine q_getR (c := 10) (n := 0) (k := 3) (a := 2) eX10_about_53 rfl (by decide) (by decide) fX10_16 rfl rfl ?_
    refine q_getf (c := 9) (n := 0) (k := 1) (v := .int (Int32.ofInt (s.1 2 1))) eX10_about_56 rfl (by decide) (by decide) fX10_185 rfl ?_
    exact q_iret eX10_about_59 rfl ⟨_, _, rfl, hA, (hA _ _), rfl, h⟩
  · have h := h.2.2.1 c1
    refine q_aload_n eX10_about_60 rfl ?_
    refine q_getR (c := 10) (n := 0) (k := 7) (a := 51) eX10_about_61 rfl (by decide) (by decide) fX10_49 rfl rfl ?_
    refine q_getf (c := 0) (n := 0) (k := 0) (v := .int (Int32.ofInt (s.1 51 0))) eX10_about_64 rfl (by decide) (by decide) fX10_273 rfl ?_
    exact q_iret eX10_about_67 rfl ⟨_, _, rfl, hA, (hA _ _), rfl, h⟩
  · have h := h.2.2.2.1 c1
    refine q_aload_n eX10_about_68 rfl ?_
    refine q_getR (c := 10) (n := 0) (k := 13) (a := 88) eX10_about_69 rfl (by decide) (by decide) fX10_95 rfl rfl ?_
    refine q_getf (c := 8) (n := 0) (k := 0) (v := .int (Int32.ofInt (s.1 88 0))) eX10_about_72 rfl (by decide) (by decide) fX10_274 rfl ?_
    exact q_iret eX10_about_75 rfl ⟨_, _, rfl, hA, (hA _ _), rfl, h⟩
  · have h := h.2.2.2.2.1 c1
    refine q_aload_n eX10_about_76 rfl ?_
    refine q_getf (c := 10) (n := 0) (k := 2) (v := .int (Int32.ofInt (s.1 0 2))) eX10_about_77 rfl (by decide) (by decide) fX10_249 rfl ?_
    exact q_iret eX10_about_80 rfl ⟨_, _, rfl, hA, (hA _ _), rfl, h⟩
  · have h := h.2.2.2.2.2.1 c1
    refine q_aload_n eX10_about_81 rfl ?_
    refine q_getf (c := 10) (n := 0) (k := 1) (v := .int (Int32.ofInt (s.1 0 1))) eX10_about_82 rfl (by decide) (by decide) fX10_107 rfl ?_
    exact q_iret eX10_about_85 rfl ⟨_, _, rfl, hA, (hA _ _), rfl, h⟩
  · have h := h.2.2.2.2.2.2.1 c1
    refine q_aload_n eX10_about_86 rfl ?_
    refine q_getR (c := 10) (n := 0) (k := 3) (a := 2) eX10_about_87 rfl (by decide) (by decide) fX10_16 rfl rfl ?_
    refine q_V0 (ci := 9) (n := 0) eX10_about_90 DX9_trustOfAll lX10_275 rfl (by decide) rfl rfl rfl rfl (h.1 (by decide) hA) ?_
    rintro _ _ ⟨s1, v1, rfl, hA1, r1, rfl, h⟩
    exact q_iret eX10_about_93 rfl ⟨_, _, rfl, hA1, r1, rfl, h⟩
  · have h := h.2.2.2.2.2.2.2 c1
    refine q_ic (v := Int32.ofInt (-1)) eX10_about_94 rfl ?_
    exact q_iret eX10_about_95 rfl ⟨_, _, rfl, hA, (r32l rfl), rfl, h⟩
