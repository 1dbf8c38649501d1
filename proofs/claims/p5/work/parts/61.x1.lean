/-! STEP ROWS of the class. By program (wip/wp/gen_parts.py). -/
theorem eX10_kindArity_0 : decode cX10_kindArity 0 = .ok (.iload_n 0, 1) := by decide +kernel
theorem eX10_kindArity_1 : decode cX10_kindArity 1 = .ok (.ifCond .lt 19, 3) := by decide +kernel
theorem eX10_kindArity_4 : decode cX10_kindArity 4 = .ok (.iload_n 0, 1) := by decide +kernel
theorem eX10_kindArity_5 : decode cX10_kindArity 5 = .ok (.getstatic 287, 3) := by decide +kernel
theorem eX10_kindArity_8 : decode cX10_kindArity 8 = .ok (.arraylength, 1) := by decide +kernel
theorem eX10_kindArity_9 : decode cX10_kindArity 9 = .ok (.if_icmp .ge 11, 3) := by decide +kernel
theorem eX10_kindArity_12 : decode cX10_kindArity 12 = .ok (.getstatic 287, 3) := by decide +kernel
theorem eX10_kindArity_15 : decode cX10_kindArity 15 = .ok (.iload_n 0, 1) := by decide +kernel
theorem eX10_kindArity_16 : decode cX10_kindArity 16 = .ok (.iaload, 1) := by decide +kernel
theorem eX10_kindArity_17 : decode cX10_kindArity 17 = .ok (.goto 4, 3) := by decide +kernel
theorem eX10_kindArity_20 : decode cX10_kindArity 20 = .ok (.iconst 0, 1) := by decide +kernel
theorem eX10_kindArity_21 : decode cX10_kindArity 21 = .ok (.ireturn, 1) := by decide +kernel
def C_X10_kindArity (s : ST) (p : Int) (Q : ST → Int → Prop) : Prop := bx <| RA s → R32 p → q_met mX10_kindArity (qs layX s) [.int (Int32.ofInt p)] (PI layX Q)
theorem C_X10_kindArity.mono {s : ST} {p : Int} {Q Q' : ST → Int → Prop} (h : C_X10_kindArity s p Q) (hq : ∀ s v, Q s v → Q' s v) : C_X10_kindArity s p Q' := ⟨fun hA hrp => q_met.mono (h.1 hA hrp) (fun _ _ => PI.mono hq), trivial⟩
set_option maxRecDepth 20000 in
theorem s_X10_kindArity {s : ST} {p : Int} {Q : ST → Int → Prop} (h : RA s → R32 p → ((p < 0 → Q s 0) ∧ (¬ p < 0 → ((6 ≤ p → Q s 0) ∧ (¬ 6 ≤ p → (((0 : Int) ≤ p ∧ p < 6) ∧ Q s (zkarity p))))))) : C_X10_kindArity s p Q := by
  refine ⟨?_, trivial⟩
  intro hA hrp
  have h := h hA hrp
  refine q_enter (by decide) (Nat.le_of_ble_eq_true rfl) ?_
  refine q_iload_n eX10_kindArity_0 rfl ?_
  refine q_iz_lt (tgt := 20) (a := p) eX10_kindArity_1 (by decide) (ofz hrp) (fun c1 => ?_) (fun c1 => ?_)
  · have h := h.1 c1
    refine q_ic (v := Int32.ofInt 0) eX10_kindArity_20 rfl ?_
    exact q_iret eX10_kindArity_21 rfl ⟨_, _, rfl, hA, (r32l rfl), rfl, h⟩
  · have h := h.2 c1
    refine q_iload_n eX10_kindArity_4 rfl ?_
    refine q_gets1 eX10_kindArity_5 rfl q_ka ?_
    refine q_tlen1 eX10_kindArity_8 ?_
    refine q_topI (v := Int32.ofInt 6) rfl ?_
    refine q_cz_ge (tgt := 20) (a := p) (b := 6) eX10_kindArity_9 (by decide) (ofz hrp) (ofz (r32l rfl)) (fun c9 => ?_) (fun c9 => ?_)
    · have h := h.1 c9
      refine q_ic (v := Int32.ofInt 0) eX10_kindArity_20 rfl ?_
      exact q_iret eX10_kindArity_21 rfl ⟨_, _, rfl, hA, (r32l rfl), rfl, h⟩
    · have h := h.2 c9
      refine q_gets1 eX10_kindArity_12 rfl q_ka ?_
      refine q_iload_n eX10_kindArity_15 rfl ?_
      have f1 := h.1
      have h := h.2
      refine q_tald1z eX10_kindArity_16 (ofz hrp) f1.1 f1.2 ?_
      refine q_topI (v := Int32.ofInt (zkarity p)) (zkarity_v _) ?_
      refine q_goto (tgt := 21) eX10_kindArity_17 (by decide) ?_
      exact q_iret eX10_kindArity_21 rfl ⟨_, _, rfl, hA, (zkarity_r _), rfl, h⟩
def F_X10_kindArity (s : ST) (p : Int) : Int := (if p < 0 then 0 else (if 6 ≤ p then 0 else (zkarity p)))
abbrev P_X10_kindArity (s : ST) (p : Int) : Prop := (¬ p < 0 → (¬ 6 ≤ p → ((0 : Int) ≤ p ∧ p < 6)))
theorem w_X10_kindArity {s : ST} {p : Int} (h : P_X10_kindArity s p) : C_X10_kindArity s p (fun s' v => s' = s ∧ v = F_X10_kindArity s p) := by
  refine s_X10_kindArity (fun hA hrp => ?_)
  unfold P_X10_kindArity at h
  refine ⟨fun e0 => ?_, fun e0 => ?_⟩
  · exact ⟨rfl, by unfold F_X10_kindArity; rw [if_pos e0]⟩
  · have h := h e0
    refine ⟨fun e1 => ?_, fun e1 => ?_⟩
    · exact ⟨rfl, by unfold F_X10_kindArity; rw [if_neg e0, if_pos e1]⟩
    · have h := h e1
      refine ⟨h, ?_⟩
      exact ⟨rfl, by unfold F_X10_kindArity; rw [if_neg e0, if_neg e1]⟩
theorem p_X10_kindArity {s : ST} {p : Int} (h : P_X10_kindArity s p) : RA s → R32 p → q_met mX10_kindArity (qs layX s) [.int (Int32.ofInt p)] (fun σ r => R32 (F_X10_kindArity s p) ∧ σ = qs layX s ∧ r = some (.int (Int32.ofInt (F_X10_kindArity s p)))) := fun hA hrp => q_met.mono ((w_X10_kindArity h).1 hA hrp) (by
  rintro _ _ ⟨s1, v1, rfl, h1, h2, rfl, rfl, rfl⟩
  exact ⟨h2, rfl, rfl⟩)
theorem eX4_pileParts_0 : decode cX4_pileParts 0 = .ok (.iload_n 3, 1) := by decide +kernel
theorem eX4_pileParts_1 : decode cX4_pileParts 1 = .ok (.ifCond .lt 14, 3) := by decide +kernel
theorem eX4_pileParts_4 : decode cX4_pileParts 4 = .ok (.iload_n 3, 1) := by decide +kernel
theorem eX4_pileParts_5 : decode cX4_pileParts 5 = .ok (.iconst 2, 1) := by decide +kernel
theorem eX4_pileParts_6 : decode cX4_pileParts 6 = .ok (.iadd, 1) := by decide +kernel
theorem eX4_pileParts_7 : decode cX4_pileParts 7 = .ok (.aload_n 0, 1) := by decide +kernel
theorem eX4_pileParts_8 : decode cX4_pileParts 8 = .ok (.getfield 27, 3) := by decide +kernel
theorem eX4_pileParts_11 : decode cX4_pileParts 11 = .ok (.arraylength, 1) := by decide +kernel
theorem eX4_pileParts_12 : decode cX4_pileParts 12 = .ok (.if_icmp .le 5, 3) := by decide +kernel
theorem eX4_pileParts_15 : decode cX4_pileParts 15 = .ok (.iload_n 3, 1) := by decide +kernel
theorem eX4_pileParts_16 : decode cX4_pileParts 16 = .ok (.ireturn, 1) := by decide +kernel
theorem eX4_pileParts_17 : decode cX4_pileParts 17 = .ok (.aload_n 0, 1) := by decide +kernel
theorem eX4_pileParts_18 : decode cX4_pileParts 18 = .ok (.getfield 15, 3) := by decide +kernel
theorem eX4_pileParts_21 : decode cX4_pileParts 21 = .ok (.iload_n 1, 1) := by decide +kernel
theorem eX4_pileParts_22 : decode cX4_pileParts 22 = .ok (.iaload, 1) := by decide +kernel
theorem eX4_pileParts_23 : decode cX4_pileParts 23 = .ok (.invokestatic 55, 3) := by decide +kernel
theorem eX4_pileParts_26 : decode cX4_pileParts 26 = .ok (.istore 4, 2) := by decide +kernel
theorem eX4_pileParts_28 : decode cX4_pileParts 28 = .ok (.iload 4, 2) := by decide +kernel
theorem eX4_pileParts_30 : decode cX4_pileParts 30 = .ok (.ifCond .le 27, 3) := by decide +kernel
theorem eX4_pileParts_33 : decode cX4_pileParts 33 = .ok (.aload_n 0, 1) := by decide +kernel
theorem eX4_pileParts_34 : decode cX4_pileParts 34 = .ok (.getfield 27, 3) := by decide +kernel
theorem eX4_pileParts_37 : decode cX4_pileParts 37 = .ok (.iload_n 3, 1) := by decide +kernel
theorem eX4_pileParts_38 : decode cX4_pileParts 38 = .ok (.aload_n 0, 1) := by decide +kernel
theorem eX4_pileParts_39 : decode cX4_pileParts 39 = .ok (.getfield 18, 3) := by decide +kernel
theorem eX4_pileParts_42 : decode cX4_pileParts 42 = .ok (.iload_n 1, 1) := by decide +kernel
theorem eX4_pileParts_43 : decode cX4_pileParts 43 = .ok (.iaload, 1) := by decide +kernel
theorem eX4_pileParts_44 : decode cX4_pileParts 44 = .ok (.iastore, 1) := by decide +kernel
theorem eX4_pileParts_45 : decode cX4_pileParts 45 = .ok (.aload_n 0, 1) := by decide +kernel
theorem eX4_pileParts_46 : decode cX4_pileParts 46 = .ok (.getfield 30, 3) := by decide +kernel
theorem eX4_pileParts_49 : decode cX4_pileParts 49 = .ok (.iload_n 3, 1) := by decide +kernel
theorem eX4_pileParts_50 : decode cX4_pileParts 50 = .ok (.aload_n 0, 1) := by decide +kernel
theorem eX4_pileParts_51 : decode cX4_pileParts 51 = .ok (.getfield 18, 3) := by decide +kernel
theorem eX4_pileParts_54 : decode cX4_pileParts 54 = .ok (.iload_n 2, 1) := by decide +kernel
theorem eX4_pileParts_55 : decode cX4_pileParts 55 = .ok (.iaload, 1) := by decide +kernel
theorem eX4_pileParts_56 : decode cX4_pileParts 56 = .ok (.iastore, 1) := by decide +kernel
theorem eX4_pileParts_57 : decode cX4_pileParts 57 = .ok (.iload 4, 2) := by decide +kernel
theorem eX4_pileParts_59 : decode cX4_pileParts 59 = .ok (.iconst 1, 1) := by decide +kernel
theorem eX4_pileParts_60 : decode cX4_pileParts 60 = .ok (.if_icmp .le 31, 3) := by decide +kernel
theorem eX4_pileParts_63 : decode cX4_pileParts 63 = .ok (.aload_n 0, 1) := by decide +kernel
theorem eX4_pileParts_64 : decode cX4_pileParts 64 = .ok (.getfield 27, 3) := by decide +kernel
theorem eX4_pileParts_67 : decode cX4_pileParts 67 = .ok (.iload_n 3, 1) := by decide +kernel
theorem eX4_pileParts_68 : decode cX4_pileParts 68 = .ok (.iconst 1, 1) := by decide +kernel
theorem eX4_pileParts_69 : decode cX4_pileParts 69 = .ok (.iadd, 1) := by decide +kernel
theorem eX4_pileParts_70 : decode cX4_pileParts 70 = .ok (.aload_n 0, 1) := by decide +kernel
theorem eX4_pileParts_71 : decode cX4_pileParts 71 = .ok (.getfield 21, 3) := by decide +kernel
theorem eX4_pileParts_74 : decode cX4_pileParts 74 = .ok (.iload_n 1, 1) := by decide +kernel
theorem eX4_pileParts_75 : decode cX4_pileParts 75 = .ok (.iaload, 1) := by decide +kernel
theorem eX4_pileParts_76 : decode cX4_pileParts 76 = .ok (.iastore, 1) := by decide +kernel
theorem eX4_pileParts_77 : decode cX4_pileParts 77 = .ok (.aload_n 0, 1) := by decide +kernel
theorem eX4_pileParts_78 : decode cX4_pileParts 78 = .ok (.getfield 30, 3) := by decide +kernel
theorem eX4_pileParts_81 : decode cX4_pileParts 81 = .ok (.iload_n 3, 1) := by decide +kernel
theorem eX4_pileParts_82 : decode cX4_pileParts 82 = .ok (.iconst 1, 1) := by decide +kernel
theorem eX4_pileParts_83 : decode cX4_pileParts 83 = .ok (.iadd, 1) := by decide +kernel
theorem eX4_pileParts_84 : decode cX4_pileParts 84 = .ok (.aload_n 0, 1) := by decide +kernel
theorem eX4_pileParts_85 : decode cX4_pileParts 85 = .ok (.getfield 21, 3) := by decide +kernel
theorem eX4_pileParts_88 : decode cX4_pileParts 88 = .ok (.iload_n 2, 1) := by decide +kernel
theorem eX4_pileParts_89 : decode cX4_pileParts 89 = .ok (.iaload, 1) := by decide +kernel
theorem eX4_pileParts_90 : decode cX4_pileParts 90 = .ok (.iastore, 1) := by decide +kernel
theorem eX4_pileParts_91 : decode cX4_pileParts 91 = .ok (.iload_n 3, 1) := by decide +kernel
theorem eX4_pileParts_92 : decode cX4_pileParts 92 = .ok (.iload 4, 2) := by decide +kernel
theorem eX4_pileParts_94 : decode cX4_pileParts 94 = .ok (.iadd, 1) := by decide +kernel
theorem eX4_pileParts_95 : decode cX4_pileParts 95 = .ok (.ireturn, 1) := by decide +kernel
def C_X4_pileParts (s : ST) (p : Int) (q : Int) (u : Int) (Q : ST → Int → Prop) : Prop := bx <| RA s → R32 p → R32 q → R32 u → q_met mX4_pileParts (qs layX s) [.ref 38, .int (Int32.ofInt p), .int (Int32.ofInt q), .int (Int32.ofInt u)] (PI layX Q)
theorem C_X4_pileParts.mono {s : ST} {p : Int} {q : Int} {u : Int} {Q Q' : ST → Int → Prop} (h : C_X4_pileParts s p q u Q) (hq : ∀ s v, Q s v → Q' s v) : C_X4_pileParts s p q u Q' := ⟨fun hA hrp hrq hru => q_met.mono (h.1 hA hrp hrq hru) (fun _ _ => PI.mono hq), trivial⟩
def K_X4_pileParts_57 (s : ST) (a1 : Int) (a2 : Int) (a3 : Int) (a4 : Int) (Q : ST → Int → Prop) : Prop := bx <| RA s → R32 a1 → R32 a2 → R32 a3 → R32 a4 → q_K mX4_pileParts (qs layX s) 0 0 57 [(0, .ref 38), (1, .int (Int32.ofInt a1)), (2, .int (Int32.ofInt a2)), (3, .int (Int32.ofInt a3)), (4, .int (Int32.ofInt a4))] [] (q_fin mX4_pileParts (PI layX Q))
set_option maxRecDepth 20000 in
theorem s_X4_pileParts_57 {s : ST} {a1 : Int} {a2 : Int} {a3 : Int} {a4 : Int} {Q : ST → Int → Prop} (h : RA s → R32 a1 → R32 a2 → R32 a3 → R32 a4 → ((a4 ≤ 1 → (R32 (a3 + a4) ∧ Q s (a3 + a4))) ∧ (¬ a4 ≤ 1 → (R32 (a3 + 1) ∧ (((0 : Int) ≤ a1 ∧ a1 < 5602) ∧ (((0 : Int) ≤ (a3 + 1) ∧ (a3 + 1) < 5604) ∧ (((0 : Int) ≤ a2 ∧ a2 < 5602) ∧ (R32 (a3 + a4) ∧ Q (ui (ui s 44 (a3 + 1) (s.1 42 a1)) 45 (a3 + 1) (s.1 42 a2)) (a3 + a4))))))))) : K_X4_pileParts_57 s a1 a2 a3 a4 Q := by
  refine ⟨?_, trivial⟩
  intro hA hra1 hra2 hra3 hra4
  have h := h hA hra1 hra2 hra3 hra4
  refine q_iload eX4_pileParts_57 rfl ?_
  refine q_ic (v := Int32.ofInt 1) eX4_pileParts_59 rfl ?_
  refine q_cz_le (tgt := 91) (a := a4) (b := 1) eX4_pileParts_60 (by decide) (ofz hra4) (ofz (r32l rfl)) (fun c60 => ?_) (fun c60 => ?_)
  · have h := h.1 c60
    refine q_iload_n eX4_pileParts_91 rfl ?_
    refine q_iload eX4_pileParts_92 rfl ?_
    refine z_iadd eX4_pileParts_94 ?_
    have r1 := h.1
    have h := h.2
    exact q_iret eX4_pileParts_95 rfl ⟨_, _, rfl, hA, r1, rfl, h⟩
  · have h := h.2 c60
    refine q_aload_n eX4_pileParts_63 rfl ?_
    refine q_getR (c := 4) (n := 0) (k := 8) (a := 44) eX4_pileParts_64 rfl (by decide) (by decide) fX4_27 rfl rfl ?_
    refine q_iload_n eX4_pileParts_67 rfl ?_
    refine q_ic (v := Int32.ofInt 1) eX4_pileParts_68 rfl ?_
    refine z_iadd eX4_pileParts_69 ?_
    have r2 := h.1
    have h := h.2
    refine q_aload_n eX4_pileParts_70 rfl ?_
    refine q_getR (c := 4) (n := 0) (k := 6) (a := 42) eX4_pileParts_71 rfl (by decide) (by decide) fX4_21 rfl rfl ?_
    refine q_iload_n eX4_pileParts_74 rfl ?_
    have f3 := h.1
    have h := h.2
    refine z_iald (n := 5602) eX4_pileParts_75 rfl (ofz hra1) f3 ?_
    refine q_topI (v := Int32.ofInt (s.1 42 a1)) rfl ?_
    have f4 := h.1
    have h := h.2
    refine z_iast (n := 5604) eX4_pileParts_76 rfl (ofz r2) f4  ?_
    refine q_aload_n eX4_pileParts_77 rfl ?_
    refine q_getR (c := 4) (n := 0) (k := 9) (a := 45) eX4_pileParts_78 rfl (by decide) (by decide) fX4_30 rfl rfl ?_
    refine q_iload_n eX4_pileParts_81 rfl ?_
    refine q_ic (v := Int32.ofInt 1) eX4_pileParts_82 rfl ?_
    refine z_iadd eX4_pileParts_83 ?_
    refine q_aload_n eX4_pileParts_84 rfl ?_
    refine q_getR (c := 4) (n := 0) (k := 6) (a := 42) eX4_pileParts_85 rfl (by decide) (by decide) fX4_21 rfl rfl ?_
    refine q_iload_n eX4_pileParts_88 rfl ?_
    have f5 := h.1
    have h := h.2
    refine z_iald (n := 5602) eX4_pileParts_89 rfl (ofz hra2) f5 ?_
    refine q_topI (v := Int32.ofInt (s.1 42 a2)) rfl ?_
    refine z_iast (n := 5604) eX4_pileParts_90 rfl (ofz r2) f4  ?_
    refine q_iload_n eX4_pileParts_91 rfl ?_
    refine q_iload eX4_pileParts_92 rfl ?_
    refine z_iadd eX4_pileParts_94 ?_
    have r6 := h.1
    have h := h.2
    exact q_iret eX4_pileParts_95 rfl ⟨_, _, rfl, (ra_ui (ra_ui hA (hA _ _)) (hA _ _)), r6, rfl, h⟩
set_option maxRecDepth 20000 in
theorem s_X4_pileParts {s : ST} {p : Int} {q : Int} {u : Int} {Q : ST → Int → Prop} (h : RA s → R32 p → R32 q → R32 u → ((u < 0 → Q s u) ∧ (¬ u < 0 → (R32 (u + 2) ∧ (((u + 2) ≤ 5604 → (((0 : Int) ≤ p ∧ p < 5602) ∧ (P_X10_kindArity s (s.1 40 p) ∧ (((F_X10_kindArity s (s.1 40 p)) ≤ 0 → K_X4_pileParts_57 s p q u (F_X10_kindArity s (s.1 40 p)) Q) ∧ (¬ (F_X10_kindArity s (s.1 40 p)) ≤ 0 → (((0 : Int) ≤ u ∧ u < 5604) ∧ (((0 : Int) ≤ q ∧ q < 5602) ∧ K_X4_pileParts_57 (ui (ui s 44 u (s.1 41 p)) 45 u (s.1 41 q)) p q u (F_X10_kindArity s (s.1 40 p)) Q))))))) ∧ (¬ (u + 2) ≤ 5604 → Q s u)))))) : C_X4_pileParts s p q u Q := by
  refine ⟨?_, trivial⟩
  intro hA hrp hrq hru
  have h := h hA hrp hrq hru
  refine q_enter (by decide) (Nat.le_of_ble_eq_true rfl) ?_
  refine q_iload_n eX4_pileParts_0 rfl ?_
  refine q_iz_lt (tgt := 15) (a := u) eX4_pileParts_1 (by decide) (ofz hru) (fun c1 => ?_) (fun c1 => ?_)
  · have h := h.1 c1
    refine q_iload_n eX4_pileParts_15 rfl ?_
    exact q_iret eX4_pileParts_16 rfl ⟨_, _, rfl, hA, hru, rfl, h⟩
  · have h := h.2 c1
    refine q_iload_n eX4_pileParts_4 rfl ?_
    refine q_ic (v := Int32.ofInt 2) eX4_pileParts_5 rfl ?_
    refine z_iadd eX4_pileParts_6 ?_
    have r1 := h.1
    have h := h.2
    refine q_aload_n eX4_pileParts_7 rfl ?_
    refine q_getR (c := 4) (n := 0) (k := 8) (a := 44) eX4_pileParts_8 rfl (by decide) (by decide) fX4_27 rfl rfl ?_
    refine q_alenz (v := Int32.ofInt 5604) eX4_pileParts_11 rfl rfl rfl ?_
    refine q_cz_le (tgt := 17) (a := (u + 2)) (b := 5604) eX4_pileParts_12 (by decide) (ofz r1) (ofz (r32l rfl)) (fun c12 => ?_) (fun c12 => ?_)
    · have h := h.1 c12
      refine q_aload_n eX4_pileParts_17 rfl ?_
      refine q_getR (c := 4) (n := 0) (k := 4) (a := 40) eX4_pileParts_18 rfl (by decide) (by decide) fX4_15 rfl rfl ?_
      refine q_iload_n eX4_pileParts_21 rfl ?_
      have f2 := h.1
      have h := h.2
      refine z_iald (n := 5602) eX4_pileParts_22 rfl (ofz hrp) f2 ?_
      refine q_topI (v := Int32.ofInt (s.1 40 p)) rfl ?_
      have f4 := h.1
      have h := h.2
      refine q_SN1 (host := "WhyNot") eX4_pileParts_23 DX10_kindArity (by decide) rfl rfl rfl (p_X10_kindArity f4 hA (hA _ _)) ?_
      rintro _ _ ⟨r3, rfl, rfl⟩
      refine q_istore eX4_pileParts_26 (Nat.le_of_ble_eq_true rfl) ?_
      refine q_iload eX4_pileParts_28 rfl ?_
      refine q_iz_le (tgt := 57) (a := (F_X10_kindArity s (s.1 40 p))) eX4_pileParts_30 (by decide) (ofz r3) (fun c30 => ?_) (fun c30 => ?_)
      · have h := h.1 c30
        exact q_subL rfl (h.1 hA hrp hrq hru r3)
      · have h := h.2 c30
        refine q_aload_n eX4_pileParts_33 rfl ?_
        refine q_getR (c := 4) (n := 0) (k := 8) (a := 44) eX4_pileParts_34 rfl (by decide) (by decide) fX4_27 rfl rfl ?_
        refine q_iload_n eX4_pileParts_37 rfl ?_
        refine q_aload_n eX4_pileParts_38 rfl ?_
        refine q_getR (c := 4) (n := 0) (k := 5) (a := 41) eX4_pileParts_39 rfl (by decide) (by decide) fX4_18 rfl rfl ?_
        refine q_iload_n eX4_pileParts_42 rfl ?_
        refine z_iald (n := 5602) eX4_pileParts_43 rfl (ofz hrp) f2 ?_
        refine q_topI (v := Int32.ofInt (s.1 41 p)) rfl ?_
        have f5 := h.1
        have h := h.2
        refine z_iast (n := 5604) eX4_pileParts_44 rfl (ofz hru) f5  ?_
        refine q_aload_n eX4_pileParts_45 rfl ?_
        refine q_getR (c := 4) (n := 0) (k := 9) (a := 45) eX4_pileParts_46 rfl (by decide) (by decide) fX4_30 rfl rfl ?_
        refine q_iload_n eX4_pileParts_49 rfl ?_
        refine q_aload_n eX4_pileParts_50 rfl ?_
        refine q_getR (c := 4) (n := 0) (k := 5) (a := 41) eX4_pileParts_51 rfl (by decide) (by decide) fX4_18 rfl rfl ?_
        refine q_iload_n eX4_pileParts_54 rfl ?_
        have f6 := h.1
        have h := h.2
        refine z_iald (n := 5602) eX4_pileParts_55 rfl (ofz hrq) f6 ?_
        refine q_topI (v := Int32.ofInt (s.1 41 q)) rfl ?_
        refine z_iast (n := 5604) eX4_pileParts_56 rfl (ofz hru) f5  ?_
        exact q_subL rfl (h.1 (ra_ui (ra_ui hA (hA _ _)) (hA _ _)) hrp hrq hru r3)
    · have h := h.2 c12
      refine q_iload_n eX4_pileParts_15 rfl ?_
      exact q_iret eX4_pileParts_16 rfl ⟨_, _, rfl, hA, hru, rfl, h⟩
theorem eX4_join_0 : decode cX4_join 0 = .ok (.aload_n 0, 1) := by decide +kernel
theorem eX4_join_1 : decode cX4_join 1 = .ok (.getfield 27, 3) := by decide +kernel
theorem eX4_join_4 : decode cX4_join 4 = .ok (.iconst 0, 1) := by decide +kernel
theorem eX4_join_5 : decode cX4_join 5 = .ok (.iload_n 1, 1) := by decide +kernel
theorem eX4_join_6 : decode cX4_join 6 = .ok (.iastore, 1) := by decide +kernel
theorem eX4_join_7 : decode cX4_join 7 = .ok (.aload_n 0, 1) := by decide +kernel
theorem eX4_join_8 : decode cX4_join 8 = .ok (.getfield 30, 3) := by decide +kernel
theorem eX4_join_11 : decode cX4_join 11 = .ok (.iconst 0, 1) := by decide +kernel
theorem eX4_join_12 : decode cX4_join 12 = .ok (.iload_n 2, 1) := by decide +kernel
theorem eX4_join_13 : decode cX4_join 13 = .ok (.iastore, 1) := by decide +kernel
theorem eX4_join_14 : decode cX4_join 14 = .ok (.iconst 1, 1) := by decide +kernel
theorem eX4_join_15 : decode cX4_join 15 = .ok (.istore_n 3, 1) := by decide +kernel
theorem eX4_join_16 : decode cX4_join 16 = .ok (.iconst 0, 1) := by decide +kernel
theorem eX4_join_17 : decode cX4_join 17 = .ok (.istore 4, 2) := by decide +kernel
theorem eX4_join_19 : decode cX4_join 19 = .ok (.iload 4, 2) := by decide +kernel
theorem eX4_join_21 : decode cX4_join 21 = .ok (.ldc 47, 2) := by decide +kernel
theorem eX4_join_23 : decode cX4_join 23 = .ok (.if_icmp .ge 155, 3) := by decide +kernel
theorem eX4_join_26 : decode cX4_join 26 = .ok (.iload_n 3, 1) := by decide +kernel
theorem eX4_join_27 : decode cX4_join 27 = .ok (.ifCond .le 151, 3) := by decide +kernel
theorem eX4_join_30 : decode cX4_join 30 = .ok (.iload_n 3, 1) := by decide +kernel
theorem eX4_join_31 : decode cX4_join 31 = .ok (.aload_n 0, 1) := by decide +kernel
theorem eX4_join_32 : decode cX4_join 32 = .ok (.getfield 27, 3) := by decide +kernel
theorem eX4_join_35 : decode cX4_join 35 = .ok (.arraylength, 1) := by decide +kernel
theorem eX4_join_36 : decode cX4_join 36 = .ok (.if_icmp .gt 142, 3) := by decide +kernel
theorem eX4_join_39 : decode cX4_join 39 = .ok (.iinc 3 (-1), 3) := by decide +kernel
theorem eX4_join_42 : decode cX4_join 42 = .ok (.aload_n 0, 1) := by decide +kernel
theorem eX4_join_43 : decode cX4_join 43 = .ok (.aload_n 0, 1) := by decide +kernel
theorem eX4_join_44 : decode cX4_join 44 = .ok (.getfield 27, 3) := by decide +kernel
theorem eX4_join_47 : decode cX4_join 47 = .ok (.iload_n 3, 1) := by decide +kernel
theorem eX4_join_48 : decode cX4_join 48 = .ok (.iaload, 1) := by decide +kernel
theorem eX4_join_49 : decode cX4_join 49 = .ok (.invokevirtual 48, 3) := by decide +kernel
theorem eX4_join_52 : decode cX4_join 52 = .ok (.istore 5, 2) := by decide +kernel
theorem eX4_join_54 : decode cX4_join 54 = .ok (.aload_n 0, 1) := by decide +kernel
theorem eX4_join_55 : decode cX4_join 55 = .ok (.aload_n 0, 1) := by decide +kernel
theorem eX4_join_56 : decode cX4_join 56 = .ok (.getfield 30, 3) := by decide +kernel
theorem eX4_join_59 : decode cX4_join 59 = .ok (.iload_n 3, 1) := by decide +kernel
theorem eX4_join_60 : decode cX4_join 60 = .ok (.iaload, 1) := by decide +kernel
theorem eX4_join_61 : decode cX4_join 61 = .ok (.invokevirtual 48, 3) := by decide +kernel
theorem eX4_join_64 : decode cX4_join 64 = .ok (.istore 6, 2) := by decide +kernel
theorem eX4_join_66 : decode cX4_join 66 = .ok (.iload 5, 2) := by decide +kernel
theorem eX4_join_68 : decode cX4_join 68 = .ok (.iload 6, 2) := by decide +kernel
theorem eX4_join_70 : decode cX4_join 70 = .ok (.if_icmp .eq 102, 3) := by decide +kernel
theorem eX4_join_73 : decode cX4_join 73 = .ok (.iload 5, 2) := by decide +kernel
theorem eX4_join_75 : decode cX4_join 75 = .ok (.iconst (-1), 1) := by decide +kernel
theorem eX4_join_76 : decode cX4_join 76 = .ok (.if_icmp .eq 96, 3) := by decide +kernel
theorem eX4_join_79 : decode cX4_join 79 = .ok (.iload 6, 2) := by decide +kernel
theorem eX4_join_81 : decode cX4_join 81 = .ok (.iconst (-1), 1) := by decide +kernel
theorem eX4_join_82 : decode cX4_join 82 = .ok (.if_icmp .ne 6, 3) := by decide +kernel
theorem eX4_join_85 : decode cX4_join 85 = .ok (.goto 87, 3) := by decide +kernel
theorem eX4_join_88 : decode cX4_join 88 = .ok (.aload_n 0, 1) := by decide +kernel
theorem eX4_join_89 : decode cX4_join 89 = .ok (.getfield 15, 3) := by decide +kernel
theorem eX4_join_92 : decode cX4_join 92 = .ok (.iload 5, 2) := by decide +kernel
theorem eX4_join_94 : decode cX4_join 94 = .ok (.iaload, 1) := by decide +kernel
theorem eX4_join_95 : decode cX4_join 95 = .ok (.iconst 5, 1) := by decide +kernel
theorem eX4_join_96 : decode cX4_join 96 = .ok (.if_icmp .ne 15, 3) := by decide +kernel
theorem eX4_join_99 : decode cX4_join 99 = .ok (.aload_n 0, 1) := by decide +kernel
theorem eX4_join_100 : decode cX4_join 100 = .ok (.getfield 11, 3) := by decide +kernel
theorem eX4_join_103 : decode cX4_join 103 = .ok (.iload 5, 2) := by decide +kernel
theorem eX4_join_105 : decode cX4_join 105 = .ok (.iload 6, 2) := by decide +kernel
theorem eX4_join_107 : decode cX4_join 107 = .ok (.iastore, 1) := by decide +kernel
theorem eX4_join_108 : decode cX4_join 108 = .ok (.goto 64, 3) := by decide +kernel
theorem eX4_join_111 : decode cX4_join 111 = .ok (.aload_n 0, 1) := by decide +kernel
theorem eX4_join_112 : decode cX4_join 112 = .ok (.getfield 15, 3) := by decide +kernel
theorem eX4_join_115 : decode cX4_join 115 = .ok (.iload 6, 2) := by decide +kernel
theorem eX4_join_117 : decode cX4_join 117 = .ok (.iaload, 1) := by decide +kernel
theorem eX4_join_118 : decode cX4_join 118 = .ok (.iconst 5, 1) := by decide +kernel
theorem eX4_join_119 : decode cX4_join 119 = .ok (.if_icmp .ne 15, 3) := by decide +kernel
theorem eX4_join_122 : decode cX4_join 122 = .ok (.aload_n 0, 1) := by decide +kernel
theorem eX4_join_123 : decode cX4_join 123 = .ok (.getfield 11, 3) := by decide +kernel
theorem eX4_join_126 : decode cX4_join 126 = .ok (.iload 6, 2) := by decide +kernel
theorem eX4_join_128 : decode cX4_join 128 = .ok (.iload 5, 2) := by decide +kernel
theorem eX4_join_130 : decode cX4_join 130 = .ok (.iastore, 1) := by decide +kernel
theorem eX4_join_131 : decode cX4_join 131 = .ok (.goto 41, 3) := by decide +kernel
theorem eX4_join_134 : decode cX4_join 134 = .ok (.aload_n 0, 1) := by decide +kernel
theorem eX4_join_135 : decode cX4_join 135 = .ok (.getfield 15, 3) := by decide +kernel
theorem eX4_join_138 : decode cX4_join 138 = .ok (.iload 5, 2) := by decide +kernel
theorem eX4_join_140 : decode cX4_join 140 = .ok (.iaload, 1) := by decide +kernel
theorem eX4_join_141 : decode cX4_join 141 = .ok (.aload_n 0, 1) := by decide +kernel
theorem eX4_join_142 : decode cX4_join 142 = .ok (.getfield 15, 3) := by decide +kernel
theorem eX4_join_145 : decode cX4_join 145 = .ok (.iload 6, 2) := by decide +kernel
theorem eX4_join_147 : decode cX4_join 147 = .ok (.iaload, 1) := by decide +kernel
theorem eX4_join_148 : decode cX4_join 148 = .ok (.if_icmp .eq 5, 3) := by decide +kernel
theorem eX4_join_151 : decode cX4_join 151 = .ok (.iconst 0, 1) := by decide +kernel
theorem eX4_join_152 : decode cX4_join 152 = .ok (.ireturn, 1) := by decide +kernel
theorem eX4_join_153 : decode cX4_join 153 = .ok (.aload_n 0, 1) := by decide +kernel
theorem eX4_join_154 : decode cX4_join 154 = .ok (.getfield 11, 3) := by decide +kernel
theorem eX4_join_157 : decode cX4_join 157 = .ok (.iload 6, 2) := by decide +kernel
theorem eX4_join_159 : decode cX4_join 159 = .ok (.iload 5, 2) := by decide +kernel
theorem eX4_join_161 : decode cX4_join 161 = .ok (.iastore, 1) := by decide +kernel
theorem eX4_join_162 : decode cX4_join 162 = .ok (.aload_n 0, 1) := by decide +kernel
theorem eX4_join_163 : decode cX4_join 163 = .ok (.iload 5, 2) := by decide +kernel
theorem eX4_join_165 : decode cX4_join 165 = .ok (.iload 6, 2) := by decide +kernel
theorem eX4_join_167 : decode cX4_join 167 = .ok (.iload_n 3, 1) := by decide +kernel
theorem eX4_join_168 : decode cX4_join 168 = .ok (.invokevirtual 52, 3) := by decide +kernel
theorem eX4_join_171 : decode cX4_join 171 = .ok (.istore_n 3, 1) := by decide +kernel
theorem eX4_join_172 : decode cX4_join 172 = .ok (.iinc 4 1, 3) := by decide +kernel
theorem eX4_join_175 : decode cX4_join 175 = .ok (.goto (-156), 3) := by decide +kernel
theorem eX4_join_178 : decode cX4_join 178 = .ok (.iconst 1, 1) := by decide +kernel
theorem eX4_join_179 : decode cX4_join 179 = .ok (.ireturn, 1) := by decide +kernel
def C_X4_join (s : ST) (p : Int) (q : Int) (Q : ST → Int → Prop) : Prop := bx <| RA s → R32 p → R32 q → q_met mX4_join (qs layX s) [.ref 38, .int (Int32.ofInt p), .int (Int32.ofInt q)] (PB layX Q)
theorem C_X4_join.mono {s : ST} {p : Int} {q : Int} {Q Q' : ST → Int → Prop} (h : C_X4_join s p q Q) (hq : ∀ s v, Q s v → Q' s v) : C_X4_join s p q Q' := ⟨fun hA hrp hrq => q_met.mono (h.1 hA hrp hrq) (fun _ _ => PB.mono hq), trivial⟩
def K_X4_join_19 (s : ST) (a3 : Int) (a4 : Int) (Q : ST → Int → Prop) : Prop := bx <| RA s → R32 a3 → R32 a4 → q_K mX4_join (qs layX s) 0 0 19 [(0, .ref 38), (3, .int (Int32.ofInt a3)), (4, .int (Int32.ofInt a4))] [] (q_fin mX4_join (PB layX Q))
set_option maxRecDepth 20000 in
theorem s_X4_join_19 {s : ST} {a3 : Int} {a4 : Int} {Q : ST → Int → Prop} (h : RA s → R32 a3 → R32 a4 → ((1000000 ≤ a4 → Q s 1) ∧ (¬ 1000000 ≤ a4 → ((a3 ≤ 0 → Q s 1) ∧ (¬ a3 ≤ 0 → ((5604 < a3 → Q s 1) ∧ (¬ 5604 < a3 → (R32 (a3 - 1) ∧ (((0 : Int) ≤ (a3 - 1) ∧ (a3 - 1) < 5604) ∧ (C_X4_chief s (s.1 44 (a3 - 1)) (fun s3 v3 => (C_X4_chief s3 (s3.1 45 (a3 - 1)) (fun s4 v4 => ((v3 = v4 → (R32 (a4 + 1) ∧ K_X4_join_19 s4 (a3 - 1) (a4 + 1) Q)) ∧ (¬ v3 = v4 → ((v3 = (-1) → (R32 (a4 + 1) ∧ K_X4_join_19 s4 (a3 - 1) (a4 + 1) Q)) ∧ (¬ v3 = (-1) → ((¬ v4 = (-1) → (((0 : Int) ≤ v3 ∧ v3 < 5602) ∧ ((¬ s4.1 40 v3 = 5 → (((0 : Int) ≤ v4 ∧ v4 < 5602) ∧ ((¬ s4.1 40 v4 = 5 → ((s4.1 40 v3 = s4.1 40 v4 → (C_X4_pileParts (ui s4 39 v4 v3) v3 v4 (a3 - 1) (fun s9 v9 => (R32 (a4 + 1) ∧ K_X4_join_19 s9 v9 (a4 + 1) Q)))) ∧ (¬ s4.1 40 v3 = s4.1 40 v4 → Q s4 0))) ∧ (s4.1 40 v4 = 5 → (R32 (a4 + 1) ∧ K_X4_join_19 (ui s4 39 v4 v3) (a3 - 1) (a4 + 1) Q))))) ∧ (s4.1 40 v3 = 5 → (R32 (a4 + 1) ∧ K_X4_join_19 (ui s4 39 v3 v4) (a3 - 1) (a4 + 1) Q))))) ∧ (v4 = (-1) → (R32 (a4 + 1) ∧ K_X4_join_19 s4 (a3 - 1) (a4 + 1) Q)))))))))))))))))))) : K_X4_join_19 s a3 a4 Q := by
  refine ⟨?_, trivial⟩
  intro hA hra3 hra4
  have h := h hA hra3 hra4
  refine q_iload eX4_join_19 rfl ?_
  refine q_ldc (v := 1000000) eX4_join_21 nX4_47 ?_
  refine q_topI (v := Int32.ofInt 1000000) rfl ?_
  refine q_cz_ge (tgt := 178) (a := a4) (b := 1000000) eX4_join_23 (by decide) (ofz hra4) (ofz (r32l rfl)) (fun c23 => ?_) (fun c23 => ?_)
  · have h := h.1 c23
    refine q_ic (v := Int32.ofInt 1) eX4_join_178 rfl ?_
    exact q_zret eX4_join_179 rfl (z01 (Or.inr rfl)) ⟨_, _, rfl, hA, (Or.inr rfl), rfl, h⟩
  · have h := h.2 c23
    refine q_iload_n eX4_join_26 rfl ?_
    refine q_iz_le (tgt := 178) (a := a3) eX4_join_27 (by decide) (ofz hra3) (fun c27 => ?_) (fun c27 => ?_)
    · have h := h.1 c27
      refine q_ic (v := Int32.ofInt 1) eX4_join_178 rfl ?_
      exact q_zret eX4_join_179 rfl (z01 (Or.inr rfl)) ⟨_, _, rfl, hA, (Or.inr rfl), rfl, h⟩
    · have h := h.2 c27
      refine q_iload_n eX4_join_30 rfl ?_
      refine q_aload_n eX4_join_31 rfl ?_
      refine q_getR (c := 4) (n := 0) (k := 8) (a := 44) eX4_join_32 rfl (by decide) (by decide) fX4_27 rfl rfl ?_
      refine q_alenz (v := Int32.ofInt 5604) eX4_join_35 rfl rfl rfl ?_
      refine q_cz_gt (tgt := 178) (a := a3) (b := 5604) eX4_join_36 (by decide) (ofz hra3) (ofz (r32l rfl)) (fun c36 => ?_) (fun c36 => ?_)
      · have h := h.1 c36
        refine q_ic (v := Int32.ofInt 1) eX4_join_178 rfl ?_
        exact q_zret eX4_join_179 rfl (z01 (Or.inr rfl)) ⟨_, _, rfl, hA, (Or.inr rfl), rfl, h⟩
      · have h := h.2 c36
        have r1 := h.1
        have h := h.2
        refine z_incN (m := 1) eX4_join_39 rfl (Nat.le_of_ble_eq_true rfl) rfl ?_
        refine q_aload_n eX4_join_42 rfl ?_
        refine q_aload_n eX4_join_43 rfl ?_
        refine q_getR (c := 4) (n := 0) (k := 8) (a := 44) eX4_join_44 rfl (by decide) (by decide) fX4_27 rfl rfl ?_
        refine q_iload_n eX4_join_47 rfl ?_
        have f2 := h.1
        have h := h.2
        refine z_iald (n := 5604) eX4_join_48 rfl (ofz r1) f2 ?_
        refine q_topI (v := Int32.ofInt (s.1 44 (a3 - 1))) rfl ?_
        refine q_V1 (ci := 4) (n := 0) eX4_join_49 DX4_chief lX4_48 rfl (by decide) rfl rfl rfl rfl (h.1 hA (hA _ _)) ?_
        rintro _ _ ⟨s3, v3, rfl, hA3, r3, rfl, h⟩
        refine q_istore eX4_join_52 (Nat.le_of_ble_eq_true rfl) ?_
        refine q_aload_n eX4_join_54 rfl ?_
        refine q_aload_n eX4_join_55 rfl ?_
        refine q_getR (c := 4) (n := 0) (k := 9) (a := 45) eX4_join_56 rfl (by decide) (by decide) fX4_30 rfl rfl ?_
        refine q_iload_n eX4_join_59 rfl ?_
        refine z_iald (n := 5604) eX4_join_60 rfl (ofz r1) f2 ?_
        refine q_topI (v := Int32.ofInt (s3.1 45 (a3 - 1))) rfl ?_
        refine q_V1 (ci := 4) (n := 0) eX4_join_61 DX4_chief lX4_48 rfl (by decide) rfl rfl rfl rfl (h.1 hA3 (hA3 _ _)) ?_
        rintro _ _ ⟨s4, v4, rfl, hA4, r4, rfl, h⟩
        refine q_istore eX4_join_64 (Nat.le_of_ble_eq_true rfl) ?_
        refine q_iload eX4_join_66 rfl ?_
        refine q_iload eX4_join_68 rfl ?_
        refine q_cz_eq (tgt := 172) (a := v3) (b := v4) eX4_join_70 (by decide) (ofz r3) (ofz r4) (fun c70 => ?_) (fun c70 => ?_)
        · have h := h.1 c70
          have r5 := h.1
          have h := h.2
          refine z_inc (m := 1) eX4_join_172 rfl (Nat.le_of_ble_eq_true rfl) rfl ?_
          refine q_goto (tgt := 19) eX4_join_175 (by decide) ?_
          exact q_subL rfl (h.1 hA4 r1 r5)
        · have h := h.2 c70
          refine q_iload eX4_join_73 rfl ?_
          refine q_ic (v := Int32.ofInt (-1)) eX4_join_75 rfl ?_
          refine q_cz_eq (tgt := 172) (a := v3) (b := (-1)) eX4_join_76 (by decide) (ofz r3) (ofz (r32l rfl)) (fun c76 => ?_) (fun c76 => ?_)
          · have h := h.1 c76
            have r6 := h.1
            have h := h.2
            refine z_inc (m := 1) eX4_join_172 rfl (Nat.le_of_ble_eq_true rfl) rfl ?_
            refine q_goto (tgt := 19) eX4_join_175 (by decide) ?_
            exact q_subL rfl (h.1 hA4 r1 r6)
          · have h := h.2 c76
            refine q_iload eX4_join_79 rfl ?_
            refine q_ic (v := Int32.ofInt (-1)) eX4_join_81 rfl ?_
            refine q_cz_ne (tgt := 88) (a := v4) (b := (-1)) eX4_join_82 (by decide) (ofz r4) (ofz (r32l rfl)) (fun c82 => ?_) (fun c82 => ?_)
            · have h := h.1 c82
              refine q_aload_n eX4_join_88 rfl ?_
              refine q_getR (c := 4) (n := 0) (k := 4) (a := 40) eX4_join_89 rfl (by decide) (by decide) fX4_15 rfl rfl ?_
              refine q_iload eX4_join_92 rfl ?_
              have f7 := h.1
              have h := h.2
              refine z_iald (n := 5602) eX4_join_94 rfl (ofz r3) f7 ?_
              refine q_topI (v := Int32.ofInt (s4.1 40 v3)) rfl ?_
              refine q_ic (v := Int32.ofInt 5) eX4_join_95 rfl ?_
              refine q_cz_ne (tgt := 111) (a := s4.1 40 v3) (b := 5) eX4_join_96 (by decide) (ofz (hA4 _ _)) (ofz (r32l rfl)) (fun c96 => ?_) (fun c96 => ?_)
              · have h := h.1 c96
                refine q_aload_n eX4_join_111 rfl ?_
                refine q_getR (c := 4) (n := 0) (k := 4) (a := 40) eX4_join_112 rfl (by decide) (by decide) fX4_15 rfl rfl ?_
                refine q_iload eX4_join_115 rfl ?_
                have f8 := h.1
                have h := h.2
                refine z_iald (n := 5602) eX4_join_117 rfl (ofz r4) f8 ?_
                refine q_topI (v := Int32.ofInt (s4.1 40 v4)) rfl ?_
                refine q_ic (v := Int32.ofInt 5) eX4_join_118 rfl ?_
                refine q_cz_ne (tgt := 134) (a := s4.1 40 v4) (b := 5) eX4_join_119 (by decide) (ofz (hA4 _ _)) (ofz (r32l rfl)) (fun c119 => ?_) (fun c119 => ?_)
                · have h := h.1 c119
                  refine q_aload_n eX4_join_134 rfl ?_
                  refine q_getR (c := 4) (n := 0) (k := 4) (a := 40) eX4_join_135 rfl (by decide) (by decide) fX4_15 rfl rfl ?_
                  refine q_iload eX4_join_138 rfl ?_
                  refine z_iald (n := 5602) eX4_join_140 rfl (ofz r3) f7 ?_
                  refine q_topI (v := Int32.ofInt (s4.1 40 v3)) rfl ?_
                  refine q_aload_n eX4_join_141 rfl ?_
                  refine q_getR (c := 4) (n := 0) (k := 4) (a := 40) eX4_join_142 rfl (by decide) (by decide) fX4_15 rfl rfl ?_
                  refine q_iload eX4_join_145 rfl ?_
                  refine z_iald (n := 5602) eX4_join_147 rfl (ofz r4) f8 ?_
                  refine q_topI (v := Int32.ofInt (s4.1 40 v4)) rfl ?_
                  refine q_cz_eq (tgt := 153) (a := s4.1 40 v3) (b := s4.1 40 v4) eX4_join_148 (by decide) (ofz (hA4 _ _)) (ofz (hA4 _ _)) (fun c148 => ?_) (fun c148 => ?_)
                  · have h := h.1 c148
                    refine q_aload_n eX4_join_153 rfl ?_
                    refine q_getR (c := 4) (n := 0) (k := 3) (a := 39) eX4_join_154 rfl (by decide) (by decide) fX4_11 rfl rfl ?_
                    refine q_iload eX4_join_157 rfl ?_
                    refine q_iload eX4_join_159 rfl ?_
                    refine z_iast (n := 5602) eX4_join_161 rfl (ofz r4) f8  ?_
                    refine q_aload_n eX4_join_162 rfl ?_
                    refine q_iload eX4_join_163 rfl ?_
                    refine q_iload eX4_join_165 rfl ?_
                    refine q_iload_n eX4_join_167 rfl ?_
                    refine q_V3 (ci := 4) (n := 0) eX4_join_168 DX4_pileParts lX4_52 rfl (by decide) rfl rfl rfl rfl (h.1 (ra_ui hA4 r3) r3 r4 r1) ?_
                    rintro _ _ ⟨s9, v9, rfl, hA9, r9, rfl, h⟩
                    refine q_istore_n eX4_join_171 (Nat.le_of_ble_eq_true rfl) ?_
                    have r10 := h.1
                    have h := h.2
                    refine z_inc (m := 1) eX4_join_172 rfl (Nat.le_of_ble_eq_true rfl) rfl ?_
                    refine q_goto (tgt := 19) eX4_join_175 (by decide) ?_
                    exact q_subL rfl (h.1 hA9 r9 r10)
                  · have h := h.2 c148
                    refine q_ic (v := Int32.ofInt 0) eX4_join_151 rfl ?_
                    exact q_zret eX4_join_152 rfl (z01 (Or.inl rfl)) ⟨_, _, rfl, hA4, (Or.inl rfl), rfl, h⟩
                · have h := h.2 c119
                  refine q_aload_n eX4_join_122 rfl ?_
                  refine q_getR (c := 4) (n := 0) (k := 3) (a := 39) eX4_join_123 rfl (by decide) (by decide) fX4_11 rfl rfl ?_
                  refine q_iload eX4_join_126 rfl ?_
                  refine q_iload eX4_join_128 rfl ?_
                  refine z_iast (n := 5602) eX4_join_130 rfl (ofz r4) f8  ?_
                  refine q_goto (tgt := 172) eX4_join_131 (by decide) ?_
                  have r11 := h.1
                  have h := h.2
                  refine z_inc (m := 1) eX4_join_172 rfl (Nat.le_of_ble_eq_true rfl) rfl ?_
                  refine q_goto (tgt := 19) eX4_join_175 (by decide) ?_
                  exact q_subL rfl (h.1 (ra_ui hA4 r3) r1 r11)
              · have h := h.2 c96
                refine q_aload_n eX4_join_99 rfl ?_
                refine q_getR (c := 4) (n := 0) (k := 3) (a := 39) eX4_join_100 rfl (by decide) (by decide) fX4_11 rfl rfl ?_
                refine q_iload eX4_join_103 rfl ?_
                refine q_iload eX4_join_105 rfl ?_
                refine z_iast (n := 5602) eX4_join_107 rfl (ofz r3) f7  ?_
                refine q_goto (tgt := 172) eX4_join_108 (by decide) ?_
                have r12 := h.1
                have h := h.2
                refine z_inc (m := 1) eX4_join_172 rfl (Nat.le_of_ble_eq_true rfl) rfl ?_
                refine q_goto (tgt := 19) eX4_join_175 (by decide) ?_
                exact q_subL rfl (h.1 (ra_ui hA4 r4) r1 r12)
            · have h := h.2 c82
              refine q_goto (tgt := 172) eX4_join_85 (by decide) ?_
              have r13 := h.1
              have h := h.2
              refine z_inc (m := 1) eX4_join_172 rfl (Nat.le_of_ble_eq_true rfl) rfl ?_
              refine q_goto (tgt := 19) eX4_join_175 (by decide) ?_
              exact q_subL rfl (h.1 hA4 r1 r13)
set_option maxRecDepth 20000 in
theorem s_X4_join {s : ST} {p : Int} {q : Int} {Q : ST → Int → Prop} (h : RA s → R32 p → R32 q → (((0 : Int) ≤ (0 : Int) ∧ (0 : Int) < 5604) ∧ K_X4_join_19 (ui (ui s 44 0 p) 45 0 q) 1 0 Q)) : C_X4_join s p q Q := by
  refine ⟨?_, trivial⟩
  intro hA hrp hrq
  have h := h hA hrp hrq
  refine q_enter (by decide) (Nat.le_of_ble_eq_true rfl) ?_
  refine q_aload_n eX4_join_0 rfl ?_
  refine q_getR (c := 4) (n := 0) (k := 8) (a := 44) eX4_join_1 rfl (by decide) (by decide) fX4_27 rfl rfl ?_
  refine q_ic (v := Int32.ofInt 0) eX4_join_4 rfl ?_
  refine q_iload_n eX4_join_5 rfl ?_
  have f1 := h.1
  have h := h.2
  refine z_iast (n := 5604) eX4_join_6 rfl (ofz (r32l rfl)) f1  ?_
  refine q_aload_n eX4_join_7 rfl ?_
  refine q_getR (c := 4) (n := 0) (k := 9) (a := 45) eX4_join_8 rfl (by decide) (by decide) fX4_30 rfl rfl ?_
  refine q_ic (v := Int32.ofInt 0) eX4_join_11 rfl ?_
  refine q_iload_n eX4_join_12 rfl ?_
  refine z_iast (n := 5604) eX4_join_13 rfl (ofz (r32l rfl)) f1  ?_
  refine q_ic (v := Int32.ofInt 1) eX4_join_14 rfl ?_
  refine q_istore_n eX4_join_15 (Nat.le_of_ble_eq_true rfl) ?_
  refine q_ic (v := Int32.ofInt 0) eX4_join_16 rfl ?_
  refine q_istore eX4_join_17 (Nat.le_of_ble_eq_true rfl) ?_
  exact q_subL rfl (h.1 (ra_ui (ra_ui hA hrp) hrq) (r32l rfl) (r32l rfl))
theorem eX4_makeOpen_0 : decode cX4_makeOpen 0 = .ok (.aload_n 0, 1) := by decide +kernel
theorem eX4_makeOpen_1 : decode cX4_makeOpen 1 = .ok (.iconst 5, 1) := by decide +kernel
theorem eX4_makeOpen_2 : decode cX4_makeOpen 2 = .ok (.iconst (-1), 1) := by decide +kernel
theorem eX4_makeOpen_3 : decode cX4_makeOpen 3 = .ok (.iconst (-1), 1) := by decide +kernel
theorem eX4_makeOpen_4 : decode cX4_makeOpen 4 = .ok (.invokevirtual 37, 3) := by decide +kernel
theorem eX4_makeOpen_7 : decode cX4_makeOpen 7 = .ok (.ireturn, 1) := by decide +kernel
def C_X4_makeOpen (s : ST) (Q : ST → Int → Prop) : Prop := bx <| RA s → q_met mX4_makeOpen (qs layX s) [.ref 38] (PI layX Q)
theorem C_X4_makeOpen.mono {s : ST} {Q Q' : ST → Int → Prop} (h : C_X4_makeOpen s Q) (hq : ∀ s v, Q s v → Q' s v) : C_X4_makeOpen s Q' := ⟨fun hA => q_met.mono (h.1 hA) (fun _ _ => PI.mono hq), trivial⟩
set_option maxRecDepth 20000 in
theorem s_X4_makeOpen {s : ST} {Q : ST → Int → Prop} (h : RA s → (C_X4_make s 5 (-1) (-1) (fun s1 v1 => Q s1 v1))) : C_X4_makeOpen s Q := by
  refine ⟨?_, trivial⟩
  intro hA
  have h := h hA
  refine q_enter (by decide) (Nat.le_of_ble_eq_true rfl) ?_
  refine q_aload_n eX4_makeOpen_0 rfl ?_
  refine q_ic (v := Int32.ofInt 5) eX4_makeOpen_1 rfl ?_
  refine q_ic (v := Int32.ofInt (-1)) eX4_makeOpen_2 rfl ?_
  refine q_ic (v := Int32.ofInt (-1)) eX4_makeOpen_3 rfl ?_
  refine q_V3 (ci := 4) (n := 0) eX4_makeOpen_4 DX4_make lX4_37 rfl (by decide) rfl rfl rfl rfl (h.1 hA (r32l rfl) (r32l rfl) (r32l rfl)) ?_
  rintro _ _ ⟨s1, v1, rfl, hA1, r1, rfl, h⟩
  exact q_iret eX4_makeOpen_7 rfl ⟨_, _, rfl, hA1, r1, rfl, h⟩
theorem eX4_makeTold_0 : decode cX4_makeTold 0 = .ok (.aload_n 1, 1) := by decide +kernel
theorem eX4_makeTold_1 : decode cX4_makeTold 1 = .ok (.iload_n 2, 1) := by decide +kernel
theorem eX4_makeTold_2 : decode cX4_makeTold 2 = .ok (.invokevirtual 69, 3) := by decide +kernel
theorem eX4_makeTold_5 : decode cX4_makeTold 5 = .ok (.ifCond .ne 5, 3) := by decide +kernel
theorem eX4_makeTold_8 : decode cX4_makeTold 8 = .ok (.iconst (-1), 1) := by decide +kernel
theorem eX4_makeTold_9 : decode cX4_makeTold 9 = .ok (.ireturn, 1) := by decide +kernel
theorem eX4_makeTold_10 : decode cX4_makeTold 10 = .ok (.aload_n 1, 1) := by decide +kernel
theorem eX4_makeTold_11 : decode cX4_makeTold 11 = .ok (.getfield 75, 3) := by decide +kernel
theorem eX4_makeTold_14 : decode cX4_makeTold 14 = .ok (.iload_n 2, 1) := by decide +kernel
theorem eX4_makeTold_15 : decode cX4_makeTold 15 = .ok (.iaload, 1) := by decide +kernel
theorem eX4_makeTold_16 : decode cX4_makeTold 16 = .ok (.istore_n 3, 1) := by decide +kernel
theorem eX4_makeTold_17 : decode cX4_makeTold 17 = .ok (.iconst 0, 1) := by decide +kernel
theorem eX4_makeTold_18 : decode cX4_makeTold 18 = .ok (.istore 4, 2) := by decide +kernel
theorem eX4_makeTold_20 : decode cX4_makeTold 20 = .ok (.iload_n 3, 1) := by decide +kernel
theorem eX4_makeTold_21 : decode cX4_makeTold 21 = .ok (.aload_n 1, 1) := by decide +kernel
theorem eX4_makeTold_22 : decode cX4_makeTold 22 = .ok (.getfield 78, 3) := by decide +kernel
theorem eX4_makeTold_25 : decode cX4_makeTold 25 = .ok (.iload_n 2, 1) := by decide +kernel
theorem eX4_makeTold_26 : decode cX4_makeTold 26 = .ok (.iaload, 1) := by decide +kernel
theorem eX4_makeTold_27 : decode cX4_makeTold 27 = .ok (.iadd, 1) := by decide +kernel
theorem eX4_makeTold_28 : decode cX4_makeTold 28 = .ok (.iconst 1, 1) := by decide +kernel
theorem eX4_makeTold_29 : decode cX4_makeTold 29 = .ok (.isub, 1) := by decide +kernel
theorem eX4_makeTold_30 : decode cX4_makeTold 30 = .ok (.istore 5, 2) := by decide +kernel
theorem eX4_makeTold_32 : decode cX4_makeTold 32 = .ok (.iload 5, 2) := by decide +kernel
theorem eX4_makeTold_34 : decode cX4_makeTold 34 = .ok (.iload_n 3, 1) := by decide +kernel
theorem eX4_makeTold_35 : decode cX4_makeTold 35 = .ok (.if_icmp .lt 127, 3) := by decide +kernel
theorem eX4_makeTold_38 : decode cX4_makeTold 38 = .ok (.iload 5, 2) := by decide +kernel
theorem eX4_makeTold_40 : decode cX4_makeTold 40 = .ok (.ifCond .lt 122, 3) := by decide +kernel
theorem eX4_makeTold_43 : decode cX4_makeTold 43 = .ok (.iload 5, 2) := by decide +kernel
theorem eX4_makeTold_45 : decode cX4_makeTold 45 = .ok (.bipush 20, 2) := by decide +kernel
theorem eX4_makeTold_47 : decode cX4_makeTold 47 = .ok (.if_icmp .ge 115, 3) := by decide +kernel
theorem eX4_makeTold_50 : decode cX4_makeTold 50 = .ok (.aload_n 1, 1) := by decide +kernel
theorem eX4_makeTold_51 : decode cX4_makeTold 51 = .ok (.getfield 81, 3) := by decide +kernel
theorem eX4_makeTold_54 : decode cX4_makeTold 54 = .ok (.iload 5, 2) := by decide +kernel
theorem eX4_makeTold_56 : decode cX4_makeTold 56 = .ok (.iaload, 1) := by decide +kernel
theorem eX4_makeTold_57 : decode cX4_makeTold 57 = .ok (.istore 6, 2) := by decide +kernel
theorem eX4_makeTold_59 : decode cX4_makeTold 59 = .ok (.iload 6, 2) := by decide +kernel
theorem eX4_makeTold_61 : decode cX4_makeTold 61 = .ok (.invokestatic 55, 3) := by decide +kernel
theorem eX4_makeTold_64 : decode cX4_makeTold 64 = .ok (.istore 7, 2) := by decide +kernel
theorem eX4_makeTold_66 : decode cX4_makeTold 66 = .ok (.iload 7, 2) := by decide +kernel
theorem eX4_makeTold_68 : decode cX4_makeTold 68 = .ok (.ifCond .le 20, 3) := by decide +kernel
theorem eX4_makeTold_71 : decode cX4_makeTold 71 = .ok (.iload 4, 2) := by decide +kernel
theorem eX4_makeTold_73 : decode cX4_makeTold 73 = .ok (.ifCond .le 15, 3) := by decide +kernel
theorem eX4_makeTold_76 : decode cX4_makeTold 76 = .ok (.aload_n 0, 1) := by decide +kernel
theorem eX4_makeTold_77 : decode cX4_makeTold 77 = .ok (.getfield 27, 3) := by decide +kernel
theorem eX4_makeTold_80 : decode cX4_makeTold 80 = .ok (.iload 4, 2) := by decide +kernel
theorem eX4_makeTold_82 : decode cX4_makeTold 82 = .ok (.iconst 1, 1) := by decide +kernel
theorem eX4_makeTold_83 : decode cX4_makeTold 83 = .ok (.isub, 1) := by decide +kernel
theorem eX4_makeTold_84 : decode cX4_makeTold 84 = .ok (.iaload, 1) := by decide +kernel
theorem eX4_makeTold_85 : decode cX4_makeTold 85 = .ok (.goto 4, 3) := by decide +kernel
theorem eX4_makeTold_88 : decode cX4_makeTold 88 = .ok (.iconst (-1), 1) := by decide +kernel
theorem eX4_makeTold_89 : decode cX4_makeTold 89 = .ok (.istore 8, 2) := by decide +kernel
theorem eX4_makeTold_91 : decode cX4_makeTold 91 = .ok (.iload 7, 2) := by decide +kernel
theorem eX4_makeTold_93 : decode cX4_makeTold 93 = .ok (.iconst 1, 1) := by decide +kernel
theorem eX4_makeTold_94 : decode cX4_makeTold 94 = .ok (.if_icmp .le 21, 3) := by decide +kernel
theorem eX4_makeTold_97 : decode cX4_makeTold 97 = .ok (.iload 4, 2) := by decide +kernel
theorem eX4_makeTold_99 : decode cX4_makeTold 99 = .ok (.iconst 1, 1) := by decide +kernel
theorem eX4_makeTold_100 : decode cX4_makeTold 100 = .ok (.if_icmp .le 15, 3) := by decide +kernel
theorem eX4_makeTold_103 : decode cX4_makeTold 103 = .ok (.aload_n 0, 1) := by decide +kernel
theorem eX4_makeTold_104 : decode cX4_makeTold 104 = .ok (.getfield 27, 3) := by decide +kernel
theorem eX4_makeTold_107 : decode cX4_makeTold 107 = .ok (.iload 4, 2) := by decide +kernel
theorem eX4_makeTold_109 : decode cX4_makeTold 109 = .ok (.iconst 2, 1) := by decide +kernel
theorem eX4_makeTold_110 : decode cX4_makeTold 110 = .ok (.isub, 1) := by decide +kernel
theorem eX4_makeTold_111 : decode cX4_makeTold 111 = .ok (.iaload, 1) := by decide +kernel
theorem eX4_makeTold_112 : decode cX4_makeTold 112 = .ok (.goto 4, 3) := by decide +kernel
theorem eX4_makeTold_115 : decode cX4_makeTold 115 = .ok (.iconst (-1), 1) := by decide +kernel
theorem eX4_makeTold_116 : decode cX4_makeTold 116 = .ok (.istore 9, 2) := by decide +kernel
theorem eX4_makeTold_118 : decode cX4_makeTold 118 = .ok (.iload 7, 2) := by decide +kernel
theorem eX4_makeTold_120 : decode cX4_makeTold 120 = .ok (.iload 4, 2) := by decide +kernel
theorem eX4_makeTold_122 : decode cX4_makeTold 122 = .ok (.if_icmp .ge 11, 3) := by decide +kernel
theorem eX4_makeTold_125 : decode cX4_makeTold 125 = .ok (.iload 4, 2) := by decide +kernel
theorem eX4_makeTold_127 : decode cX4_makeTold 127 = .ok (.iload 7, 2) := by decide +kernel
theorem eX4_makeTold_129 : decode cX4_makeTold 129 = .ok (.isub, 1) := by decide +kernel
theorem eX4_makeTold_130 : decode cX4_makeTold 130 = .ok (.goto 4, 3) := by decide +kernel
theorem eX4_makeTold_133 : decode cX4_makeTold 133 = .ok (.iconst 0, 1) := by decide +kernel
theorem eX4_makeTold_134 : decode cX4_makeTold 134 = .ok (.istore 4, 2) := by decide +kernel
theorem eX4_makeTold_136 : decode cX4_makeTold 136 = .ok (.aload_n 0, 1) := by decide +kernel
theorem eX4_makeTold_137 : decode cX4_makeTold 137 = .ok (.getfield 27, 3) := by decide +kernel
theorem eX4_makeTold_140 : decode cX4_makeTold 140 = .ok (.iload 4, 2) := by decide +kernel
theorem eX4_makeTold_142 : decode cX4_makeTold 142 = .ok (.aload_n 0, 1) := by decide +kernel
theorem eX4_makeTold_143 : decode cX4_makeTold 143 = .ok (.iload 6, 2) := by decide +kernel
theorem eX4_makeTold_145 : decode cX4_makeTold 145 = .ok (.iload 8, 2) := by decide +kernel
theorem eX4_makeTold_147 : decode cX4_makeTold 147 = .ok (.iload 9, 2) := by decide +kernel
theorem eX4_makeTold_149 : decode cX4_makeTold 149 = .ok (.invokevirtual 37, 3) := by decide +kernel
theorem eX4_makeTold_152 : decode cX4_makeTold 152 = .ok (.iastore, 1) := by decide +kernel
theorem eX4_makeTold_153 : decode cX4_makeTold 153 = .ok (.iinc 4 1, 3) := by decide +kernel
theorem eX4_makeTold_156 : decode cX4_makeTold 156 = .ok (.iinc 5 (-1), 3) := by decide +kernel
theorem eX4_makeTold_159 : decode cX4_makeTold 159 = .ok (.goto (-127), 3) := by decide +kernel
theorem eX4_makeTold_162 : decode cX4_makeTold 162 = .ok (.iload 4, 2) := by decide +kernel
theorem eX4_makeTold_164 : decode cX4_makeTold 164 = .ok (.ifCond .le 15, 3) := by decide +kernel
theorem eX4_makeTold_167 : decode cX4_makeTold 167 = .ok (.aload_n 0, 1) := by decide +kernel
theorem eX4_makeTold_168 : decode cX4_makeTold 168 = .ok (.getfield 27, 3) := by decide +kernel
theorem eX4_makeTold_171 : decode cX4_makeTold 171 = .ok (.iload 4, 2) := by decide +kernel
theorem eX4_makeTold_173 : decode cX4_makeTold 173 = .ok (.iconst 1, 1) := by decide +kernel
theorem eX4_makeTold_174 : decode cX4_makeTold 174 = .ok (.isub, 1) := by decide +kernel
theorem eX4_makeTold_175 : decode cX4_makeTold 175 = .ok (.iaload, 1) := by decide +kernel
theorem eX4_makeTold_176 : decode cX4_makeTold 176 = .ok (.goto 4, 3) := by decide +kernel
theorem eX4_makeTold_179 : decode cX4_makeTold 179 = .ok (.iconst (-1), 1) := by decide +kernel
theorem eX4_makeTold_180 : decode cX4_makeTold 180 = .ok (.ireturn, 1) := by decide +kernel
def C_X4_makeTold (o : Nat) (s : ST) (p : Int) (Q : ST → Int → Prop) : Prop := bx <| isT o → RA s → R32 p → q_met mX4_makeTold (qs layX s) [.ref 38, .ref o, .int (Int32.ofInt p)] (PI layX Q)
theorem C_X4_makeTold.mono {o : Nat} {s : ST} {p : Int} {Q Q' : ST → Int → Prop} (h : C_X4_makeTold o s p Q) (hq : ∀ s v, Q s v → Q' s v) : C_X4_makeTold o s p Q' := ⟨fun ho hA hrp => q_met.mono (h.1 ho hA hrp) (fun _ _ => PI.mono hq), trivial⟩
def K_X4_makeTold_162 (o : Nat) (s : ST) (a4 : Int) (Q : ST → Int → Prop) : Prop := bx <| isT o → RA s → R32 a4 → q_K mX4_makeTold (qs layX s) 0 0 162 [(0, .ref 38), (4, .int (Int32.ofInt a4))] [] (q_fin mX4_makeTold (PI layX Q))
def K_X4_makeTold_134 (o : Nat) (s : ST) (a3 : Int) (a5 : Int) (a6 : Int) (a8 : Int) (a9 : Int) (t0 : Int) (Q : ST → Int → Prop) : Prop := bx <| isT o → RA s → R32 a3 → R32 a5 → R32 a6 → R32 a8 → R32 a9 → R32 t0 → q_K mX4_makeTold (qs layX s) 0 0 134 [(0, .ref 38), (1, .ref o), (3, .int (Int32.ofInt a3)), (5, .int (Int32.ofInt a5)), (6, .int (Int32.ofInt a6)), (8, .int (Int32.ofInt a8)), (9, .int (Int32.ofInt a9))] [.int (Int32.ofInt t0)] (q_fin mX4_makeTold (PI layX Q))
def K_X4_makeTold_116 (o : Nat) (s : ST) (a3 : Int) (a4 : Int) (a5 : Int) (a6 : Int) (a7 : Int) (a8 : Int) (t0 : Int) (Q : ST → Int → Prop) : Prop := bx <| isT o → RA s → R32 a3 → R32 a4 → R32 a5 → R32 a6 → R32 a7 → R32 a8 → R32 t0 → q_K mX4_makeTold (qs layX s) 0 0 116 [(0, .ref 38), (1, .ref o), (3, .int (Int32.ofInt a3)), (4, .int (Int32.ofInt a4)), (5, .int (Int32.ofInt a5)), (6, .int (Int32.ofInt a6)), (7, .int (Int32.ofInt a7)), (8, .int (Int32.ofInt a8))] [.int (Int32.ofInt t0)] (q_fin mX4_makeTold (PI layX Q))
def K_X4_makeTold_115 (o : Nat) (s : ST) (a3 : Int) (a4 : Int) (a5 : Int) (a6 : Int) (a7 : Int) (a8 : Int) (Q : ST → Int → Prop) : Prop := bx <| isT o → RA s → R32 a3 → R32 a4 → R32 a5 → R32 a6 → R32 a7 → R32 a8 → q_K mX4_makeTold (qs layX s) 0 0 115 [(0, .ref 38), (1, .ref o), (3, .int (Int32.ofInt a3)), (4, .int (Int32.ofInt a4)), (5, .int (Int32.ofInt a5)), (6, .int (Int32.ofInt a6)), (7, .int (Int32.ofInt a7)), (8, .int (Int32.ofInt a8))] [] (q_fin mX4_makeTold (PI layX Q))
def K_X4_makeTold_89 (o : Nat) (s : ST) (a3 : Int) (a4 : Int) (a5 : Int) (a6 : Int) (a7 : Int) (t0 : Int) (Q : ST → Int → Prop) : Prop := bx <| isT o → RA s → R32 a3 → R32 a4 → R32 a5 → R32 a6 → R32 a7 → R32 t0 → q_K mX4_makeTold (qs layX s) 0 0 89 [(0, .ref 38), (1, .ref o), (3, .int (Int32.ofInt a3)), (4, .int (Int32.ofInt a4)), (5, .int (Int32.ofInt a5)), (6, .int (Int32.ofInt a6)), (7, .int (Int32.ofInt a7))] [.int (Int32.ofInt t0)] (q_fin mX4_makeTold (PI layX Q))
def K_X4_makeTold_88 (o : Nat) (s : ST) (a3 : Int) (a4 : Int) (a5 : Int) (a6 : Int) (a7 : Int) (Q : ST → Int → Prop) : Prop := bx <| isT o → RA s → R32 a3 → R32 a4 → R32 a5 → R32 a6 → R32 a7 → q_K mX4_makeTold (qs layX s) 0 0 88 [(0, .ref 38), (1, .ref o), (3, .int (Int32.ofInt a3)), (4, .int (Int32.ofInt a4)), (5, .int (Int32.ofInt a5)), (6, .int (Int32.ofInt a6)), (7, .int (Int32.ofInt a7))] [] (q_fin mX4_makeTold (PI layX Q))
def K_X4_makeTold_32 (o : Nat) (s : ST) (a3 : Int) (a4 : Int) (a5 : Int) (Q : ST → Int → Prop) : Prop := bx <| isT o → RA s → R32 a3 → R32 a4 → R32 a5 → q_K mX4_makeTold (qs layX s) 0 0 32 [(0, .ref 38), (1, .ref o), (3, .int (Int32.ofInt a3)), (4, .int (Int32.ofInt a4)), (5, .int (Int32.ofInt a5))] [] (q_fin mX4_makeTold (PI layX Q))
set_option maxRecDepth 20000 in
theorem s_X4_makeTold_162 {o : Nat} {s : ST} {a4 : Int} {Q : ST → Int → Prop} (h : isT o → RA s → R32 a4 → ((a4 ≤ 0 → Q s (-1)) ∧ (¬ a4 ≤ 0 → (R32 (a4 - 1) ∧ (((0 : Int) ≤ (a4 - 1) ∧ (a4 - 1) < 5604) ∧ Q s (s.1 44 (a4 - 1))))))) : K_X4_makeTold_162 o s a4 Q := by
  refine ⟨?_, trivial⟩
  intro ho hA hra4
  have h := h ho hA hra4
  refine q_iload eX4_makeTold_162 rfl ?_
  refine q_iz_le (tgt := 179) (a := a4) eX4_makeTold_164 (by decide) (ofz hra4) (fun c164 => ?_) (fun c164 => ?_)
  · have h := h.1 c164
    refine q_ic (v := Int32.ofInt (-1)) eX4_makeTold_179 rfl ?_
    exact q_iret eX4_makeTold_180 rfl ⟨_, _, rfl, hA, (r32l rfl), rfl, h⟩
  · have h := h.2 c164
    refine q_aload_n eX4_makeTold_167 rfl ?_
    refine q_getR (c := 4) (n := 0) (k := 8) (a := 44) eX4_makeTold_168 rfl (by decide) (by decide) fX4_27 rfl rfl ?_
    refine q_iload eX4_makeTold_171 rfl ?_
    refine q_ic (v := Int32.ofInt 1) eX4_makeTold_173 rfl ?_
    refine z_isub eX4_makeTold_174 ?_
    have r1 := h.1
    have h := h.2
    have f2 := h.1
    have h := h.2
    refine z_iald (n := 5604) eX4_makeTold_175 rfl (ofz r1) f2 ?_
    refine q_topI (v := Int32.ofInt (s.1 44 (a4 - 1))) rfl ?_
    refine q_goto (tgt := 180) eX4_makeTold_176 (by decide) ?_
    exact q_iret eX4_makeTold_180 rfl ⟨_, _, rfl, hA, (hA _ _), rfl, h⟩
set_option maxRecDepth 20000 in
theorem s_X4_makeTold_134 {o : Nat} {s : ST} {a3 : Int} {a5 : Int} {a6 : Int} {a8 : Int} {a9 : Int} {t0 : Int} {Q : ST → Int → Prop} (h : isT o → RA s → R32 a3 → R32 a5 → R32 a6 → R32 a8 → R32 a9 → R32 t0 → (C_X4_make s a6 a8 a9 (fun s1 v1 => (((0 : Int) ≤ t0 ∧ t0 < 5604) ∧ (R32 (t0 + 1) ∧ (R32 (a5 - 1) ∧ K_X4_makeTold_32 o (ui s1 44 t0 v1) a3 (t0 + 1) (a5 - 1) Q)))))) : K_X4_makeTold_134 o s a3 a5 a6 a8 a9 t0 Q := by
  refine ⟨?_, trivial⟩
  intro ho hA hra3 hra5 hra6 hra8 hra9 hrt0
  have h := h ho hA hra3 hra5 hra6 hra8 hra9 hrt0
  refine q_istore eX4_makeTold_134 (Nat.le_of_ble_eq_true rfl) ?_
  refine q_aload_n eX4_makeTold_136 rfl ?_
  refine q_getR (c := 4) (n := 0) (k := 8) (a := 44) eX4_makeTold_137 rfl (by decide) (by decide) fX4_27 rfl rfl ?_
  refine q_iload eX4_makeTold_140 rfl ?_
  refine q_aload_n eX4_makeTold_142 rfl ?_
  refine q_iload eX4_makeTold_143 rfl ?_
  refine q_iload eX4_makeTold_145 rfl ?_
  refine q_iload eX4_makeTold_147 rfl ?_
  refine q_V3 (ci := 4) (n := 0) eX4_makeTold_149 DX4_make lX4_37 rfl (by decide) rfl rfl rfl rfl (h.1 hA hra6 hra8 hra9) ?_
  rintro _ _ ⟨s1, v1, rfl, hA1, r1, rfl, h⟩
  have f2 := h.1
  have h := h.2
  refine z_iast (n := 5604) eX4_makeTold_152 rfl (ofz hrt0) f2  ?_
  have r3 := h.1
  have h := h.2
  refine z_inc (m := 1) eX4_makeTold_153 rfl (Nat.le_of_ble_eq_true rfl) rfl ?_
  have r4 := h.1
  have h := h.2
  refine z_incN (m := 1) eX4_makeTold_156 rfl (Nat.le_of_ble_eq_true rfl) rfl ?_
  refine q_goto (tgt := 32) eX4_makeTold_159 (by decide) ?_
  exact q_subL rfl (h.1 ho (ra_ui hA1 r1) hra3 r3 r4)
set_option maxRecDepth 20000 in
theorem s_X4_makeTold_116 {o : Nat} {s : ST} {a3 : Int} {a4 : Int} {a5 : Int} {a6 : Int} {a7 : Int} {a8 : Int} {t0 : Int} {Q : ST → Int → Prop} (h : isT o → RA s → R32 a3 → R32 a4 → R32 a5 → R32 a6 → R32 a7 → R32 a8 → R32 t0 → ((a4 ≤ a7 → K_X4_makeTold_134 o s a3 a5 a6 a8 t0 0 Q) ∧ (¬ a4 ≤ a7 → (R32 (a4 - a7) ∧ K_X4_makeTold_134 o s a3 a5 a6 a8 t0 (a4 - a7) Q)))) : K_X4_makeTold_116 o s a3 a4 a5 a6 a7 a8 t0 Q := by
  refine ⟨?_, trivial⟩
  intro ho hA hra3 hra4 hra5 hra6 hra7 hra8 hrt0
  have h := h ho hA hra3 hra4 hra5 hra6 hra7 hra8 hrt0
  refine q_istore eX4_makeTold_116 (Nat.le_of_ble_eq_true rfl) ?_
  refine q_iload eX4_makeTold_118 rfl ?_
  refine q_iload eX4_makeTold_120 rfl ?_
  refine q_cz_ge (tgt := 133) (a := a7) (b := a4) eX4_makeTold_122 (by decide) (ofz hra7) (ofz hra4) (fun c122 => ?_) (fun c122 => ?_)
  · have h := h.1 c122
    refine q_ic (v := Int32.ofInt 0) eX4_makeTold_133 rfl ?_
    exact q_subL rfl (h.1 ho hA hra3 hra5 hra6 hra8 hrt0 (r32l rfl))
  · have h := h.2 c122
    refine q_iload eX4_makeTold_125 rfl ?_
    refine q_iload eX4_makeTold_127 rfl ?_
    refine z_isub eX4_makeTold_129 ?_
    have r1 := h.1
    have h := h.2
    refine q_goto (tgt := 134) eX4_makeTold_130 (by decide) ?_
    exact q_subL rfl (h.1 ho hA hra3 hra5 hra6 hra8 hrt0 r1)
set_option maxRecDepth 20000 in
theorem s_X4_makeTold_115 {o : Nat} {s : ST} {a3 : Int} {a4 : Int} {a5 : Int} {a6 : Int} {a7 : Int} {a8 : Int} {Q : ST → Int → Prop} (h : isT o → RA s → R32 a3 → R32 a4 → R32 a5 → R32 a6 → R32 a7 → R32 a8 → K_X4_makeTold_116 o s a3 a4 a5 a6 a7 a8 (-1) Q) : K_X4_makeTold_115 o s a3 a4 a5 a6 a7 a8 Q := by
  refine ⟨?_, trivial⟩
  intro ho hA hra3 hra4 hra5 hra6 hra7 hra8
  have h := h ho hA hra3 hra4 hra5 hra6 hra7 hra8
  refine q_ic (v := Int32.ofInt (-1)) eX4_makeTold_115 rfl ?_
  exact q_subL rfl (h.1 ho hA hra3 hra4 hra5 hra6 hra7 hra8 (r32l rfl))
set_option maxRecDepth 20000 in
theorem s_X4_makeTold_89 {o : Nat} {s : ST} {a3 : Int} {a4 : Int} {a5 : Int} {a6 : Int} {a7 : Int} {t0 : Int} {Q : ST → Int → Prop} (h : isT o → RA s → R32 a3 → R32 a4 → R32 a5 → R32 a6 → R32 a7 → R32 t0 → ((a7 ≤ 1 → K_X4_makeTold_115 o s a3 a4 a5 a6 a7 t0 Q) ∧ (¬ a7 ≤ 1 → ((a4 ≤ 1 → K_X4_makeTold_115 o s a3 a4 a5 a6 a7 t0 Q) ∧ (¬ a4 ≤ 1 → (R32 (a4 - 2) ∧ (((0 : Int) ≤ (a4 - 2) ∧ (a4 - 2) < 5604) ∧ K_X4_makeTold_116 o s a3 a4 a5 a6 a7 t0 (s.1 44 (a4 - 2)) Q))))))) : K_X4_makeTold_89 o s a3 a4 a5 a6 a7 t0 Q := by
  refine ⟨?_, trivial⟩
  intro ho hA hra3 hra4 hra5 hra6 hra7 hrt0
  have h := h ho hA hra3 hra4 hra5 hra6 hra7 hrt0
  refine q_istore eX4_makeTold_89 (Nat.le_of_ble_eq_true rfl) ?_
  refine q_iload eX4_makeTold_91 rfl ?_
  refine q_ic (v := Int32.ofInt 1) eX4_makeTold_93 rfl ?_
  refine q_cz_le (tgt := 115) (a := a7) (b := 1) eX4_makeTold_94 (by decide) (ofz hra7) (ofz (r32l rfl)) (fun c94 => ?_) (fun c94 => ?_)
  · have h := h.1 c94
    exact q_subL rfl (h.1 ho hA hra3 hra4 hra5 hra6 hra7 hrt0)
  · have h := h.2 c94
    refine q_iload eX4_makeTold_97 rfl ?_
    refine q_ic (v := Int32.ofInt 1) eX4_makeTold_99 rfl ?_
    refine q_cz_le (tgt := 115) (a := a4) (b := 1) eX4_makeTold_100 (by decide) (ofz hra4) (ofz (r32l rfl)) (fun c100 => ?_) (fun c100 => ?_)
    · have h := h.1 c100
      exact q_subL rfl (h.1 ho hA hra3 hra4 hra5 hra6 hra7 hrt0)
    · have h := h.2 c100
      refine q_aload_n eX4_makeTold_103 rfl ?_
      refine q_getR (c := 4) (n := 0) (k := 8) (a := 44) eX4_makeTold_104 rfl (by decide) (by decide) fX4_27 rfl rfl ?_
      refine q_iload eX4_makeTold_107 rfl ?_
      refine q_ic (v := Int32.ofInt 2) eX4_makeTold_109 rfl ?_
      refine z_isub eX4_makeTold_110 ?_
      have r1 := h.1
      have h := h.2
      have f2 := h.1
      have h := h.2
      refine z_iald (n := 5604) eX4_makeTold_111 rfl (ofz r1) f2 ?_
      refine q_topI (v := Int32.ofInt (s.1 44 (a4 - 2))) rfl ?_
      refine q_goto (tgt := 116) eX4_makeTold_112 (by decide) ?_
      exact q_subL rfl (h.1 ho hA hra3 hra4 hra5 hra6 hra7 hrt0 (hA _ _))
set_option maxRecDepth 20000 in
theorem s_X4_makeTold_88 {o : Nat} {s : ST} {a3 : Int} {a4 : Int} {a5 : Int} {a6 : Int} {a7 : Int} {Q : ST → Int → Prop} (h : isT o → RA s → R32 a3 → R32 a4 → R32 a5 → R32 a6 → R32 a7 → K_X4_makeTold_89 o s a3 a4 a5 a6 a7 (-1) Q) : K_X4_makeTold_88 o s a3 a4 a5 a6 a7 Q := by
  refine ⟨?_, trivial⟩
  intro ho hA hra3 hra4 hra5 hra6 hra7
  have h := h ho hA hra3 hra4 hra5 hra6 hra7
  refine q_ic (v := Int32.ofInt (-1)) eX4_makeTold_88 rfl ?_
  exact q_subL rfl (h.1 ho hA hra3 hra4 hra5 hra6 hra7 (r32l rfl))
set_option maxRecDepth 20000 in
theorem s_X4_makeTold_32 {o : Nat} {s : ST} {a3 : Int} {a4 : Int} {a5 : Int} {Q : ST → Int → Prop} (h : isT o → RA s → R32 a3 → R32 a4 → R32 a5 → ((a5 < a3 → K_X4_makeTold_162 o s a4 Q) ∧ (¬ a5 < a3 → ((a5 < 0 → K_X4_makeTold_162 o s a4 Q) ∧ (¬ a5 < 0 → ((20 ≤ a5 → K_X4_makeTold_162 o s a4 Q) ∧ (¬ 20 ≤ a5 → (((0 : Int) ≤ a5 ∧ a5 < 20) ∧ (P_X10_kindArity s (s.1 (o + 14) a5) ∧ (((F_X10_kindArity s (s.1 (o + 14) a5)) ≤ 0 → K_X4_makeTold_88 o s a3 a4 a5 (s.1 (o + 14) a5) (F_X10_kindArity s (s.1 (o + 14) a5)) Q) ∧ (¬ (F_X10_kindArity s (s.1 (o + 14) a5)) ≤ 0 → ((a4 ≤ 0 → K_X4_makeTold_88 o s a3 a4 a5 (s.1 (o + 14) a5) (F_X10_kindArity s (s.1 (o + 14) a5)) Q) ∧ (¬ a4 ≤ 0 → (R32 (a4 - 1) ∧ (((0 : Int) ≤ (a4 - 1) ∧ (a4 - 1) < 5604) ∧ K_X4_makeTold_89 o s a3 a4 a5 (s.1 (o + 14) a5) (F_X10_kindArity s (s.1 (o + 14) a5)) (s.1 44 (a4 - 1)) Q))))))))))))))) : K_X4_makeTold_32 o s a3 a4 a5 Q := by
  refine ⟨?_, trivial⟩
  intro ho hA hra3 hra4 hra5
  have h := h ho hA hra3 hra4 hra5
  refine q_iload eX4_makeTold_32 rfl ?_
  refine q_iload_n eX4_makeTold_34 rfl ?_
  refine q_cz_lt (tgt := 162) (a := a5) (b := a3) eX4_makeTold_35 (by decide) (ofz hra5) (ofz hra3) (fun c35 => ?_) (fun c35 => ?_)
  · have h := h.1 c35
    exact q_subL rfl (h.1 ho hA hra4)
  · have h := h.2 c35
    refine q_iload eX4_makeTold_38 rfl ?_
    refine q_iz_lt (tgt := 162) (a := a5) eX4_makeTold_40 (by decide) (ofz hra5) (fun c40 => ?_) (fun c40 => ?_)
    · have h := h.1 c40
      exact q_subL rfl (h.1 ho hA hra4)
    · have h := h.2 c40
      refine q_iload eX4_makeTold_43 rfl ?_
      refine q_bi (v := Int32.ofInt 20) eX4_makeTold_45 rfl ?_
      refine q_cz_ge (tgt := 162) (a := a5) (b := 20) eX4_makeTold_47 (by decide) (ofz hra5) (ofz (r32l rfl)) (fun c47 => ?_) (fun c47 => ?_)
      · have h := h.1 c47
        exact q_subL rfl (h.1 ho hA hra4)
      · have h := h.2 c47
        refine q_aload_n eX4_makeTold_50 rfl ?_
        refine q_getR (c := 9) (n := 0) (k := 16) (a := (o + 14)) eX4_makeTold_51 (tl_0 ho) (by decide) (by decide) fX4_81 rfl (tr_16 ho) ?_
        refine q_iload eX4_makeTold_54 rfl ?_
        have f1 := h.1
        have h := h.2
        refine z_iald (n := 20) eX4_makeTold_56 (tl_14 ho) (ofz hra5) f1 ?_
        refine q_topI (v := Int32.ofInt (s.1 (o + 14) a5)) rfl ?_
        refine q_istore eX4_makeTold_57 (Nat.le_of_ble_eq_true rfl) ?_
        refine q_iload eX4_makeTold_59 rfl ?_
        have f3 := h.1
        have h := h.2
        refine q_SN1 (host := "WhyNot") eX4_makeTold_61 DX10_kindArity (by decide) rfl rfl rfl (p_X10_kindArity f3 hA (hA _ _)) ?_
        rintro _ _ ⟨r2, rfl, rfl⟩
        refine q_istore eX4_makeTold_64 (Nat.le_of_ble_eq_true rfl) ?_
        refine q_iload eX4_makeTold_66 rfl ?_
        refine q_iz_le (tgt := 88) (a := (F_X10_kindArity s (s.1 (o + 14) a5))) eX4_makeTold_68 (by decide) (ofz r2) (fun c68 => ?_) (fun c68 => ?_)
        · have h := h.1 c68
          exact q_subL rfl (h.1 ho hA hra3 hra4 hra5 (hA _ _) r2)
        · have h := h.2 c68
          refine q_iload eX4_makeTold_71 rfl ?_
          refine q_iz_le (tgt := 88) (a := a4) eX4_makeTold_73 (by decide) (ofz hra4) (fun c73 => ?_) (fun c73 => ?_)
          · have h := h.1 c73
            exact q_subL rfl (h.1 ho hA hra3 hra4 hra5 (hA _ _) r2)
          · have h := h.2 c73
            refine q_aload_n eX4_makeTold_76 rfl ?_
            refine q_getR (c := 4) (n := 0) (k := 8) (a := 44) eX4_makeTold_77 rfl (by decide) (by decide) fX4_27 rfl rfl ?_
            refine q_iload eX4_makeTold_80 rfl ?_
            refine q_ic (v := Int32.ofInt 1) eX4_makeTold_82 rfl ?_
            refine z_isub eX4_makeTold_83 ?_
            have r4 := h.1
            have h := h.2
            have f5 := h.1
            have h := h.2
            refine z_iald (n := 5604) eX4_makeTold_84 rfl (ofz r4) f5 ?_
            refine q_topI (v := Int32.ofInt (s.1 44 (a4 - 1))) rfl ?_
            refine q_goto (tgt := 89) eX4_makeTold_85 (by decide) ?_
            exact q_subL rfl (h.1 ho hA hra3 hra4 hra5 (hA _ _) r2 (hA _ _))
set_option maxRecDepth 20000 in
theorem s_X4_makeTold {o : Nat} {s : ST} {p : Int} {Q : ST → Int → Prop} (h : isT o → RA s → R32 p → (((¬ p < 0 ∧ (¬ s.1 o 1 ≤ p ∧ ¬ 40 ≤ p)) → (((0 : Int) ≤ p ∧ p < 40) ∧ K_X4_makeTold_32 o s (s.1 (o + 12) p) 0 (w32 ((w32 (s.1 (o + 12) p + s.1 (o + 13) p)) - 1)) Q)) ∧ (¬ (¬ p < 0 ∧ (¬ s.1 o 1 ≤ p ∧ ¬ 40 ≤ p)) → Q s (-1)))) : C_X4_makeTold o s p Q := by
  refine ⟨?_, trivial⟩
  intro ho hA hrp
  have h := h ho hA hrp
  refine q_enter (by decide) (Nat.le_of_ble_eq_true rfl) ?_
  refine q_aload_n eX4_makeTold_0 rfl ?_
  refine q_iload_n eX4_makeTold_1 rfl ?_
  refine q_V1 (ci := 9) (n := 0) eX4_makeTold_2 DX9_has lX4_69 (tl_0 ho) (by decide) rfl rfl rfl rfl (p_X9_has ho hA hrp) ?_
  rintro _ _ ⟨b1, rfl, rfl⟩
  refine q_iz_ne (tgt := 10) (a := (F_X9_has o s p)) eX4_makeTold_5 (by decide) (ofz (r01 b1)) (fun c5 => ?_) (fun c5 => ?_)
  · have h := h.1 (n_X9_has.mp c5)
    refine q_aload_n eX4_makeTold_10 rfl ?_
    refine q_getR (c := 9) (n := 0) (k := 14) (a := (o + 12)) eX4_makeTold_11 (tl_0 ho) (by decide) (by decide) fX4_75 rfl (tr_14 ho) ?_
    refine q_iload_n eX4_makeTold_14 rfl ?_
    have f2 := h.1
    have h := h.2
    refine z_iald (n := 40) eX4_makeTold_15 (tl_12 ho) (ofz hrp) f2 ?_
    refine q_topI (v := Int32.ofInt (s.1 (o + 12) p)) rfl ?_
    refine q_istore_n eX4_makeTold_16 (Nat.le_of_ble_eq_true rfl) ?_
    refine q_ic (v := Int32.ofInt 0) eX4_makeTold_17 rfl ?_
    refine q_istore eX4_makeTold_18 (Nat.le_of_ble_eq_true rfl) ?_
    refine q_iload_n eX4_makeTold_20 rfl ?_
    refine q_aload_n eX4_makeTold_21 rfl ?_
    refine q_getR (c := 9) (n := 0) (k := 15) (a := (o + 13)) eX4_makeTold_22 (tl_0 ho) (by decide) (by decide) fX4_78 rfl (tr_15 ho) ?_
    refine q_iload_n eX4_makeTold_25 rfl ?_
    refine z_iald (n := 40) eX4_makeTold_26 (tl_13 ho) (ofz hrp) f2 ?_
    refine q_topI (v := Int32.ofInt (s.1 (o + 13) p)) rfl ?_
    refine z_iadd eX4_makeTold_27 ?_
    refine q_topI (v := Int32.ofInt (w32 (s.1 (o + 12) p + s.1 (o + 13) p))) (w32_of _).symm ?_
    refine q_ic (v := Int32.ofInt 1) eX4_makeTold_28 rfl ?_
    refine z_isub eX4_makeTold_29 ?_
    refine q_topI (v := Int32.ofInt (w32 ((w32 (s.1 (o + 12) p + s.1 (o + 13) p)) - 1))) (w32_of _).symm ?_
    refine q_istore eX4_makeTold_30 (Nat.le_of_ble_eq_true rfl) ?_
    exact q_subL rfl (h.1 ho hA (hA _ _) (r32l rfl) (w32_r _))
  · have h := h.2 (fun q => n_X9_has.mpr q c5)
    refine q_ic (v := Int32.ofInt (-1)) eX4_makeTold_8 rfl ?_
    exact q_iret eX4_makeTold_9 rfl ⟨_, _, rfl, hA, (r32l rfl), rfl, h⟩
theorem eX0_ask_0 : decode cX0_ask 0 = .ok (.iload_n 1, 1) := by decide +kernel
theorem eX0_ask_1 : decode cX0_ask 1 = .ok (.ifCond .lt 10, 3) := by decide +kernel
theorem eX0_ask_4 : decode cX0_ask 4 = .ok (.iload_n 1, 1) := by decide +kernel
theorem eX0_ask_5 : decode cX0_ask 5 = .ok (.sipush 400, 3) := by decide +kernel
theorem eX0_ask_8 : decode cX0_ask 8 = .ok (.if_icmp .lt 5, 3) := by decide +kernel
theorem eX0_ask_11 : decode cX0_ask 11 = .ok (.iconst 1, 1) := by decide +kernel
theorem eX0_ask_12 : decode cX0_ask 12 = .ok (.ireturn, 1) := by decide +kernel
theorem eX0_ask_13 : decode cX0_ask 13 = .ok (.iload_n 1, 1) := by decide +kernel
theorem eX0_ask_14 : decode cX0_ask 14 = .ok (.invokestatic 78, 3) := by decide +kernel
theorem eX0_ask_17 : decode cX0_ask 17 = .ok (.istore_n 2, 1) := by decide +kernel
theorem eX0_ask_18 : decode cX0_ask 18 = .ok (.aload_n 0, 1) := by decide +kernel
theorem eX0_ask_19 : decode cX0_ask 19 = .ok (.getfield 15, 3) := by decide +kernel
theorem eX0_ask_22 : decode cX0_ask 22 = .ok (.iconst 3, 1) := by decide +kernel
theorem eX0_ask_23 : decode cX0_ask 23 = .ok (.iload_n 1, 1) := by decide +kernel
theorem eX0_ask_24 : decode cX0_ask 24 = .ok (.imul, 1) := by decide +kernel
theorem eX0_ask_25 : decode cX0_ask 25 = .ok (.iaload, 1) := by decide +kernel
theorem eX0_ask_26 : decode cX0_ask 26 = .ok (.istore_n 3, 1) := by decide +kernel
theorem eX0_ask_27 : decode cX0_ask 27 = .ok (.aload_n 0, 1) := by decide +kernel
theorem eX0_ask_28 : decode cX0_ask 28 = .ok (.getfield 15, 3) := by decide +kernel
theorem eX0_ask_31 : decode cX0_ask 31 = .ok (.iconst 3, 1) := by decide +kernel
theorem eX0_ask_32 : decode cX0_ask 32 = .ok (.iload_n 1, 1) := by decide +kernel
theorem eX0_ask_33 : decode cX0_ask 33 = .ok (.imul, 1) := by decide +kernel
theorem eX0_ask_34 : decode cX0_ask 34 = .ok (.iconst 1, 1) := by decide +kernel
theorem eX0_ask_35 : decode cX0_ask 35 = .ok (.iadd, 1) := by decide +kernel
theorem eX0_ask_36 : decode cX0_ask 36 = .ok (.iaload, 1) := by decide +kernel
theorem eX0_ask_37 : decode cX0_ask 37 = .ok (.istore 4, 2) := by decide +kernel
theorem eX0_ask_39 : decode cX0_ask 39 = .ok (.aload_n 0, 1) := by decide +kernel
theorem eX0_ask_40 : decode cX0_ask 40 = .ok (.getfield 15, 3) := by decide +kernel
theorem eX0_ask_43 : decode cX0_ask 43 = .ok (.iconst 3, 1) := by decide +kernel
theorem eX0_ask_44 : decode cX0_ask 44 = .ok (.iload_n 1, 1) := by decide +kernel
theorem eX0_ask_45 : decode cX0_ask 45 = .ok (.imul, 1) := by decide +kernel
theorem eX0_ask_46 : decode cX0_ask 46 = .ok (.iconst 2, 1) := by decide +kernel
theorem eX0_ask_47 : decode cX0_ask 47 = .ok (.iadd, 1) := by decide +kernel
theorem eX0_ask_48 : decode cX0_ask 48 = .ok (.iaload, 1) := by decide +kernel
theorem eX0_ask_49 : decode cX0_ask 49 = .ok (.istore 5, 2) := by decide +kernel
theorem eX0_ask_51 : decode cX0_ask 51 = .ok (.aload_n 0, 1) := by decide +kernel
theorem eX0_ask_52 : decode cX0_ask 52 = .ok (.getfield 33, 3) := by decide +kernel
theorem eX0_ask_55 : decode cX0_ask 55 = .ok (.aload_n 0, 1) := by decide +kernel
theorem eX0_ask_56 : decode cX0_ask 56 = .ok (.getfield 9, 3) := by decide +kernel
theorem eX0_ask_59 : decode cX0_ask 59 = .ok (.iload_n 1, 1) := by decide +kernel
theorem eX0_ask_60 : decode cX0_ask 60 = .ok (.iaload, 1) := by decide +kernel
theorem eX0_ask_61 : decode cX0_ask 61 = .ok (.invokevirtual 151, 3) := by decide +kernel
theorem eX0_ask_64 : decode cX0_ask 64 = .ok (.tableswitch 603 0 16 #[84, 100, 116, 126, 148, 159, 210, 230, 250, 275, 300, 325, 366, 385, 430, 491, 552], 84) := by decide +kernel
theorem eX0_ask_148 : decode cX0_ask 148 = .ok (.aload_n 0, 1) := by decide +kernel
theorem eX0_ask_149 : decode cX0_ask 149 = .ok (.getfield 37, 3) := by decide +kernel
theorem eX0_ask_152 : decode cX0_ask 152 = .ok (.iload_n 2, 1) := by decide +kernel
theorem eX0_ask_153 : decode cX0_ask 153 = .ok (.aload_n 0, 1) := by decide +kernel
theorem eX0_ask_154 : decode cX0_ask 154 = .ok (.getfield 37, 3) := by decide +kernel
theorem eX0_ask_157 : decode cX0_ask 157 = .ok (.getfield 154, 3) := by decide +kernel
theorem eX0_ask_160 : decode cX0_ask 160 = .ok (.invokevirtual 135, 3) := by decide +kernel
theorem eX0_ask_163 : decode cX0_ask 163 = .ok (.ireturn, 1) := by decide +kernel
theorem eX0_ask_164 : decode cX0_ask 164 = .ok (.aload_n 0, 1) := by decide +kernel
theorem eX0_ask_165 : decode cX0_ask 165 = .ok (.getfield 37, 3) := by decide +kernel
theorem eX0_ask_168 : decode cX0_ask 168 = .ok (.iload_n 2, 1) := by decide +kernel
theorem eX0_ask_169 : decode cX0_ask 169 = .ok (.aload_n 0, 1) := by decide +kernel
theorem eX0_ask_170 : decode cX0_ask 170 = .ok (.getfield 37, 3) := by decide +kernel
theorem eX0_ask_173 : decode cX0_ask 173 = .ok (.getfield 157, 3) := by decide +kernel
theorem eX0_ask_176 : decode cX0_ask 176 = .ok (.invokevirtual 135, 3) := by decide +kernel
theorem eX0_ask_179 : decode cX0_ask 179 = .ok (.ireturn, 1) := by decide +kernel
theorem eX0_ask_180 : decode cX0_ask 180 = .ok (.aload_n 0, 1) := by decide +kernel
theorem eX0_ask_181 : decode cX0_ask 181 = .ok (.getfield 37, 3) := by decide +kernel
theorem eX0_ask_184 : decode cX0_ask 184 = .ok (.iload_n 2, 1) := by decide +kernel
theorem eX0_ask_185 : decode cX0_ask 185 = .ok (.iload_n 3, 1) := by decide +kernel
theorem eX0_ask_186 : decode cX0_ask 186 = .ok (.invokevirtual 135, 3) := by decide +kernel
theorem eX0_ask_189 : decode cX0_ask 189 = .ok (.ireturn, 1) := by decide +kernel
theorem eX0_ask_190 : decode cX0_ask 190 = .ok (.aload_n 0, 1) := by decide +kernel
theorem eX0_ask_191 : decode cX0_ask 191 = .ok (.getfield 37, 3) := by decide +kernel
theorem eX0_ask_194 : decode cX0_ask 194 = .ok (.iload_n 2, 1) := by decide +kernel
theorem eX0_ask_195 : decode cX0_ask 195 = .ok (.aload_n 0, 1) := by decide +kernel
theorem eX0_ask_196 : decode cX0_ask 196 = .ok (.getfield 37, 3) := by decide +kernel
theorem eX0_ask_199 : decode cX0_ask 199 = .ok (.iconst 4, 1) := by decide +kernel
theorem eX0_ask_200 : decode cX0_ask 200 = .ok (.iload_n 1, 1) := by decide +kernel
theorem eX0_ask_201 : decode cX0_ask 201 = .ok (.invokestatic 104, 3) := by decide +kernel
theorem eX0_ask_204 : decode cX0_ask 204 = .ok (.iload_n 3, 1) := by decide +kernel
theorem eX0_ask_205 : decode cX0_ask 205 = .ok (.invokevirtual 160, 3) := by decide +kernel
theorem eX0_ask_208 : decode cX0_ask 208 = .ok (.invokevirtual 135, 3) := by decide +kernel
theorem eX0_ask_211 : decode cX0_ask 211 = .ok (.ireturn, 1) := by decide +kernel
theorem eX0_ask_212 : decode cX0_ask 212 = .ok (.aload_n 0, 1) := by decide +kernel
theorem eX0_ask_213 : decode cX0_ask 213 = .ok (.getfield 37, 3) := by decide +kernel
theorem eX0_ask_216 : decode cX0_ask 216 = .ok (.iload_n 2, 1) := by decide +kernel
theorem eX0_ask_217 : decode cX0_ask 217 = .ok (.iload 4, 2) := by decide +kernel
theorem eX0_ask_219 : decode cX0_ask 219 = .ok (.invokevirtual 135, 3) := by decide +kernel
theorem eX0_ask_222 : decode cX0_ask 222 = .ok (.ireturn, 1) := by decide +kernel
theorem eX0_ask_223 : decode cX0_ask 223 = .ok (.aload_n 0, 1) := by decide +kernel
theorem eX0_ask_224 : decode cX0_ask 224 = .ok (.getfield 37, 3) := by decide +kernel
theorem eX0_ask_227 : decode cX0_ask 227 = .ok (.iload_n 3, 1) := by decide +kernel
theorem eX0_ask_228 : decode cX0_ask 228 = .ok (.aload_n 0, 1) := by decide +kernel
theorem eX0_ask_229 : decode cX0_ask 229 = .ok (.getfield 37, 3) := by decide +kernel
theorem eX0_ask_232 : decode cX0_ask 232 = .ok (.getfield 157, 3) := by decide +kernel
theorem eX0_ask_235 : decode cX0_ask 235 = .ok (.invokevirtual 135, 3) := by decide +kernel
theorem eX0_ask_238 : decode cX0_ask 238 = .ok (.ifCond .eq 34, 3) := by decide +kernel
theorem eX0_ask_241 : decode cX0_ask 241 = .ok (.aload_n 0, 1) := by decide +kernel
theorem eX0_ask_242 : decode cX0_ask 242 = .ok (.getfield 37, 3) := by decide +kernel
theorem eX0_ask_245 : decode cX0_ask 245 = .ok (.iload 4, 2) := by decide +kernel
theorem eX0_ask_247 : decode cX0_ask 247 = .ok (.iload 5, 2) := by decide +kernel
theorem eX0_ask_249 : decode cX0_ask 249 = .ok (.invokevirtual 135, 3) := by decide +kernel
theorem eX0_ask_252 : decode cX0_ask 252 = .ok (.ifCond .eq 20, 3) := by decide +kernel
theorem eX0_ask_255 : decode cX0_ask 255 = .ok (.aload_n 0, 1) := by decide +kernel
theorem eX0_ask_256 : decode cX0_ask 256 = .ok (.getfield 37, 3) := by decide +kernel
theorem eX0_ask_259 : decode cX0_ask 259 = .ok (.iload_n 2, 1) := by decide +kernel
theorem eX0_ask_260 : decode cX0_ask 260 = .ok (.iload 4, 2) := by decide +kernel
theorem eX0_ask_262 : decode cX0_ask 262 = .ok (.invokevirtual 135, 3) := by decide +kernel
theorem eX0_ask_265 : decode cX0_ask 265 = .ok (.ifCond .eq 7, 3) := by decide +kernel
theorem eX0_ask_268 : decode cX0_ask 268 = .ok (.iconst 1, 1) := by decide +kernel
theorem eX0_ask_269 : decode cX0_ask 269 = .ok (.goto 4, 3) := by decide +kernel
theorem eX0_ask_272 : decode cX0_ask 272 = .ok (.iconst 0, 1) := by decide +kernel
theorem eX0_ask_273 : decode cX0_ask 273 = .ok (.ireturn, 1) := by decide +kernel
theorem eX0_ask_274 : decode cX0_ask 274 = .ok (.aload_n 0, 1) := by decide +kernel
theorem eX0_ask_275 : decode cX0_ask 275 = .ok (.getfield 37, 3) := by decide +kernel
theorem eX0_ask_278 : decode cX0_ask 278 = .ok (.iload_n 3, 1) := by decide +kernel
theorem eX0_ask_279 : decode cX0_ask 279 = .ok (.aload_n 0, 1) := by decide +kernel
theorem eX0_ask_280 : decode cX0_ask 280 = .ok (.getfield 37, 3) := by decide +kernel
theorem eX0_ask_283 : decode cX0_ask 283 = .ok (.iconst 4, 1) := by decide +kernel
theorem eX0_ask_284 : decode cX0_ask 284 = .ok (.iload 4, 2) := by decide +kernel
theorem eX0_ask_286 : decode cX0_ask 286 = .ok (.iload_n 2, 1) := by decide +kernel
theorem eX0_ask_287 : decode cX0_ask 287 = .ok (.invokevirtual 160, 3) := by decide +kernel
theorem eX0_ask_290 : decode cX0_ask 290 = .ok (.invokevirtual 135, 3) := by decide +kernel
theorem eX0_ask_293 : decode cX0_ask 293 = .ok (.ireturn, 1) := by decide +kernel
theorem eX0_ask_294 : decode cX0_ask 294 = .ok (.aload_n 0, 1) := by decide +kernel
theorem eX0_ask_295 : decode cX0_ask 295 = .ok (.getfield 37, 3) := by decide +kernel
theorem eX0_ask_298 : decode cX0_ask 298 = .ok (.iload_n 2, 1) := by decide +kernel
theorem eX0_ask_299 : decode cX0_ask 299 = .ok (.aload_n 0, 1) := by decide +kernel
theorem eX0_ask_300 : decode cX0_ask 300 = .ok (.getfield 37, 3) := by decide +kernel
theorem eX0_ask_303 : decode cX0_ask 303 = .ok (.iconst 3, 1) := by decide +kernel
theorem eX0_ask_304 : decode cX0_ask 304 = .ok (.iload_n 3, 1) := by decide +kernel
theorem eX0_ask_305 : decode cX0_ask 305 = .ok (.iload 4, 2) := by decide +kernel
theorem eX0_ask_307 : decode cX0_ask 307 = .ok (.invokevirtual 160, 3) := by decide +kernel
theorem eX0_ask_310 : decode cX0_ask 310 = .ok (.invokevirtual 135, 3) := by decide +kernel
theorem eX0_ask_313 : decode cX0_ask 313 = .ok (.ireturn, 1) := by decide +kernel
theorem eX0_ask_314 : decode cX0_ask 314 = .ok (.aload_n 0, 1) := by decide +kernel
theorem eX0_ask_315 : decode cX0_ask 315 = .ok (.getfield 37, 3) := by decide +kernel
theorem eX0_ask_318 : decode cX0_ask 318 = .ok (.iload_n 3, 1) := by decide +kernel
theorem eX0_ask_319 : decode cX0_ask 319 = .ok (.aload_n 0, 1) := by decide +kernel
theorem eX0_ask_320 : decode cX0_ask 320 = .ok (.getfield 37, 3) := by decide +kernel
theorem eX0_ask_323 : decode cX0_ask 323 = .ok (.iconst 3, 1) := by decide +kernel
theorem eX0_ask_324 : decode cX0_ask 324 = .ok (.iload_n 2, 1) := by decide +kernel
theorem eX0_ask_325 : decode cX0_ask 325 = .ok (.aload_n 0, 1) := by decide +kernel
theorem eX0_ask_326 : decode cX0_ask 326 = .ok (.getfield 37, 3) := by decide +kernel
theorem eX0_ask_329 : decode cX0_ask 329 = .ok (.invokevirtual 164, 3) := by decide +kernel
theorem eX0_ask_332 : decode cX0_ask 332 = .ok (.invokevirtual 160, 3) := by decide +kernel
theorem eX0_ask_335 : decode cX0_ask 335 = .ok (.invokevirtual 135, 3) := by decide +kernel
theorem eX0_ask_338 : decode cX0_ask 338 = .ok (.ireturn, 1) := by decide +kernel
theorem eX0_ask_339 : decode cX0_ask 339 = .ok (.aload_n 0, 1) := by decide +kernel
theorem eX0_ask_340 : decode cX0_ask 340 = .ok (.getfield 37, 3) := by decide +kernel
theorem eX0_ask_343 : decode cX0_ask 343 = .ok (.iload_n 3, 1) := by decide +kernel
theorem eX0_ask_344 : decode cX0_ask 344 = .ok (.aload_n 0, 1) := by decide +kernel
theorem eX0_ask_345 : decode cX0_ask 345 = .ok (.getfield 37, 3) := by decide +kernel
theorem eX0_ask_348 : decode cX0_ask 348 = .ok (.iconst 3, 1) := by decide +kernel
theorem eX0_ask_349 : decode cX0_ask 349 = .ok (.aload_n 0, 1) := by decide +kernel
theorem eX0_ask_350 : decode cX0_ask 350 = .ok (.getfield 37, 3) := by decide +kernel
theorem eX0_ask_353 : decode cX0_ask 353 = .ok (.invokevirtual 164, 3) := by decide +kernel
theorem eX0_ask_356 : decode cX0_ask 356 = .ok (.iload_n 2, 1) := by decide +kernel
theorem eX0_ask_357 : decode cX0_ask 357 = .ok (.invokevirtual 160, 3) := by decide +kernel
theorem eX0_ask_360 : decode cX0_ask 360 = .ok (.invokevirtual 135, 3) := by decide +kernel
theorem eX0_ask_363 : decode cX0_ask 363 = .ok (.ireturn, 1) := by decide +kernel
theorem eX0_ask_364 : decode cX0_ask 364 = .ok (.aload_n 0, 1) := by decide +kernel
theorem eX0_ask_365 : decode cX0_ask 365 = .ok (.getfield 37, 3) := by decide +kernel
theorem eX0_ask_368 : decode cX0_ask 368 = .ok (.iload_n 2, 1) := by decide +kernel
theorem eX0_ask_369 : decode cX0_ask 369 = .ok (.aload_n 0, 1) := by decide +kernel
theorem eX0_ask_370 : decode cX0_ask 370 = .ok (.getfield 37, 3) := by decide +kernel
theorem eX0_ask_373 : decode cX0_ask 373 = .ok (.iconst 2, 1) := by decide +kernel
theorem eX0_ask_374 : decode cX0_ask 374 = .ok (.aload_n 0, 1) := by decide +kernel
theorem eX0_ask_375 : decode cX0_ask 375 = .ok (.getfield 37, 3) := by decide +kernel
theorem eX0_ask_378 : decode cX0_ask 378 = .ok (.invokevirtual 164, 3) := by decide +kernel
theorem eX0_ask_381 : decode cX0_ask 381 = .ok (.iconst (-1), 1) := by decide +kernel
theorem eX0_ask_382 : decode cX0_ask 382 = .ok (.invokevirtual 160, 3) := by decide +kernel
theorem eX0_ask_385 : decode cX0_ask 385 = .ok (.invokevirtual 135, 3) := by decide +kernel
theorem eX0_ask_388 : decode cX0_ask 388 = .ok (.ireturn, 1) := by decide +kernel
theorem eX0_ask_389 : decode cX0_ask 389 = .ok (.aload_n 0, 1) := by decide +kernel
theorem eX0_ask_390 : decode cX0_ask 390 = .ok (.getfield 37, 3) := by decide +kernel
theorem eX0_ask_393 : decode cX0_ask 393 = .ok (.iload 4, 2) := by decide +kernel
theorem eX0_ask_395 : decode cX0_ask 395 = .ok (.aload_n 0, 1) := by decide +kernel
theorem eX0_ask_396 : decode cX0_ask 396 = .ok (.getfield 37, 3) := by decide +kernel
theorem eX0_ask_399 : decode cX0_ask 399 = .ok (.iconst 2, 1) := by decide +kernel
theorem eX0_ask_400 : decode cX0_ask 400 = .ok (.iload_n 3, 1) := by decide +kernel
theorem eX0_ask_401 : decode cX0_ask 401 = .ok (.iconst (-1), 1) := by decide +kernel
theorem eX0_ask_402 : decode cX0_ask 402 = .ok (.invokevirtual 160, 3) := by decide +kernel
theorem eX0_ask_405 : decode cX0_ask 405 = .ok (.invokevirtual 135, 3) := by decide +kernel
theorem eX0_ask_408 : decode cX0_ask 408 = .ok (.ifCond .eq 20, 3) := by decide +kernel
theorem eX0_ask_411 : decode cX0_ask 411 = .ok (.aload_n 0, 1) := by decide +kernel
theorem eX0_ask_412 : decode cX0_ask 412 = .ok (.getfield 37, 3) := by decide +kernel
theorem eX0_ask_415 : decode cX0_ask 415 = .ok (.iload_n 2, 1) := by decide +kernel
theorem eX0_ask_416 : decode cX0_ask 416 = .ok (.iload 4, 2) := by decide +kernel
theorem eX0_ask_418 : decode cX0_ask 418 = .ok (.invokevirtual 135, 3) := by decide +kernel
theorem eX0_ask_421 : decode cX0_ask 421 = .ok (.ifCond .eq 7, 3) := by decide +kernel
theorem eX0_ask_424 : decode cX0_ask 424 = .ok (.iconst 1, 1) := by decide +kernel
theorem eX0_ask_425 : decode cX0_ask 425 = .ok (.goto 4, 3) := by decide +kernel
theorem eX0_ask_428 : decode cX0_ask 428 = .ok (.iconst 0, 1) := by decide +kernel
theorem eX0_ask_429 : decode cX0_ask 429 = .ok (.ireturn, 1) := by decide +kernel
theorem eX0_ask_430 : decode cX0_ask 430 = .ok (.aload_n 0, 1) := by decide +kernel
theorem eX0_ask_431 : decode cX0_ask 431 = .ok (.getfield 37, 3) := by decide +kernel
theorem eX0_ask_434 : decode cX0_ask 434 = .ok (.iload_n 3, 1) := by decide +kernel
theorem eX0_ask_435 : decode cX0_ask 435 = .ok (.aload_n 0, 1) := by decide +kernel
theorem eX0_ask_436 : decode cX0_ask 436 = .ok (.getfield 37, 3) := by decide +kernel
theorem eX0_ask_439 : decode cX0_ask 439 = .ok (.iconst 2, 1) := by decide +kernel
theorem eX0_ask_440 : decode cX0_ask 440 = .ok (.iload_n 2, 1) := by decide +kernel
theorem eX0_ask_441 : decode cX0_ask 441 = .ok (.iconst (-1), 1) := by decide +kernel
theorem eX0_ask_442 : decode cX0_ask 442 = .ok (.invokevirtual 160, 3) := by decide +kernel
theorem eX0_ask_445 : decode cX0_ask 445 = .ok (.invokevirtual 135, 3) := by decide +kernel
theorem eX0_ask_448 : decode cX0_ask 448 = .ok (.ireturn, 1) := by decide +kernel
theorem eX0_ask_449 : decode cX0_ask 449 = .ok (.aload_n 0, 1) := by decide +kernel
theorem eX0_ask_450 : decode cX0_ask 450 = .ok (.getfield 37, 3) := by decide +kernel
theorem eX0_ask_453 : decode cX0_ask 453 = .ok (.iload_n 3, 1) := by decide +kernel
theorem eX0_ask_454 : decode cX0_ask 454 = .ok (.aload_n 0, 1) := by decide +kernel
theorem eX0_ask_455 : decode cX0_ask 455 = .ok (.getfield 37, 3) := by decide +kernel
theorem eX0_ask_458 : decode cX0_ask 458 = .ok (.iconst 2, 1) := by decide +kernel
theorem eX0_ask_459 : decode cX0_ask 459 = .ok (.aload_n 0, 1) := by decide +kernel
theorem eX0_ask_460 : decode cX0_ask 460 = .ok (.getfield 37, 3) := by decide +kernel
theorem eX0_ask_463 : decode cX0_ask 463 = .ok (.invokevirtual 164, 3) := by decide +kernel
theorem eX0_ask_466 : decode cX0_ask 466 = .ok (.iconst (-1), 1) := by decide +kernel
theorem eX0_ask_467 : decode cX0_ask 467 = .ok (.invokevirtual 160, 3) := by decide +kernel
theorem eX0_ask_470 : decode cX0_ask 470 = .ok (.invokevirtual 135, 3) := by decide +kernel
theorem eX0_ask_473 : decode cX0_ask 473 = .ok (.ifCond .eq 19, 3) := by decide +kernel
theorem eX0_ask_476 : decode cX0_ask 476 = .ok (.aload_n 0, 1) := by decide +kernel
theorem eX0_ask_477 : decode cX0_ask 477 = .ok (.getfield 37, 3) := by decide +kernel
theorem eX0_ask_480 : decode cX0_ask 480 = .ok (.iload_n 2, 1) := by decide +kernel
theorem eX0_ask_481 : decode cX0_ask 481 = .ok (.iload_n 3, 1) := by decide +kernel
theorem eX0_ask_482 : decode cX0_ask 482 = .ok (.invokevirtual 135, 3) := by decide +kernel
theorem eX0_ask_485 : decode cX0_ask 485 = .ok (.ifCond .eq 7, 3) := by decide +kernel
theorem eX0_ask_488 : decode cX0_ask 488 = .ok (.iconst 1, 1) := by decide +kernel
theorem eX0_ask_489 : decode cX0_ask 489 = .ok (.goto 4, 3) := by decide +kernel
theorem eX0_ask_492 : decode cX0_ask 492 = .ok (.iconst 0, 1) := by decide +kernel
theorem eX0_ask_493 : decode cX0_ask 493 = .ok (.ireturn, 1) := by decide +kernel
theorem eX0_ask_494 : decode cX0_ask 494 = .ok (.aload_n 0, 1) := by decide +kernel
theorem eX0_ask_495 : decode cX0_ask 495 = .ok (.getfield 37, 3) := by decide +kernel
theorem eX0_ask_498 : decode cX0_ask 498 = .ok (.iload_n 3, 1) := by decide +kernel
theorem eX0_ask_499 : decode cX0_ask 499 = .ok (.aload_n 0, 1) := by decide +kernel
theorem eX0_ask_500 : decode cX0_ask 500 = .ok (.getfield 37, 3) := by decide +kernel
theorem eX0_ask_503 : decode cX0_ask 503 = .ok (.getfield 154, 3) := by decide +kernel
theorem eX0_ask_506 : decode cX0_ask 506 = .ok (.invokevirtual 135, 3) := by decide +kernel
theorem eX0_ask_509 : decode cX0_ask 509 = .ok (.ifCond .eq 44, 3) := by decide +kernel
theorem eX0_ask_512 : decode cX0_ask 512 = .ok (.aload_n 0, 1) := by decide +kernel
theorem eX0_ask_513 : decode cX0_ask 513 = .ok (.getfield 37, 3) := by decide +kernel
theorem eX0_ask_516 : decode cX0_ask 516 = .ok (.iload 4, 2) := by decide +kernel
theorem eX0_ask_518 : decode cX0_ask 518 = .ok (.aload_n 0, 1) := by decide +kernel
theorem eX0_ask_519 : decode cX0_ask 519 = .ok (.getfield 37, 3) := by decide +kernel
theorem eX0_ask_522 : decode cX0_ask 522 = .ok (.getfield 154, 3) := by decide +kernel
theorem eX0_ask_525 : decode cX0_ask 525 = .ok (.invokevirtual 135, 3) := by decide +kernel
theorem eX0_ask_528 : decode cX0_ask 528 = .ok (.ifCond .eq 25, 3) := by decide +kernel
theorem eX0_ask_531 : decode cX0_ask 531 = .ok (.aload_n 0, 1) := by decide +kernel
theorem eX0_ask_532 : decode cX0_ask 532 = .ok (.getfield 37, 3) := by decide +kernel
theorem eX0_ask_535 : decode cX0_ask 535 = .ok (.iload_n 2, 1) := by decide +kernel
theorem eX0_ask_536 : decode cX0_ask 536 = .ok (.aload_n 0, 1) := by decide +kernel
theorem eX0_ask_537 : decode cX0_ask 537 = .ok (.getfield 37, 3) := by decide +kernel
theorem eX0_ask_540 : decode cX0_ask 540 = .ok (.getfield 154, 3) := by decide +kernel
theorem eX0_ask_543 : decode cX0_ask 543 = .ok (.invokevirtual 135, 3) := by decide +kernel
theorem eX0_ask_546 : decode cX0_ask 546 = .ok (.ifCond .eq 7, 3) := by decide +kernel
theorem eX0_ask_549 : decode cX0_ask 549 = .ok (.iconst 1, 1) := by decide +kernel
theorem eX0_ask_550 : decode cX0_ask 550 = .ok (.goto 4, 3) := by decide +kernel
theorem eX0_ask_553 : decode cX0_ask 553 = .ok (.iconst 0, 1) := by decide +kernel
theorem eX0_ask_554 : decode cX0_ask 554 = .ok (.ireturn, 1) := by decide +kernel
theorem eX0_ask_555 : decode cX0_ask 555 = .ok (.aload_n 0, 1) := by decide +kernel
theorem eX0_ask_556 : decode cX0_ask 556 = .ok (.getfield 37, 3) := by decide +kernel
theorem eX0_ask_559 : decode cX0_ask 559 = .ok (.iload_n 3, 1) := by decide +kernel
theorem eX0_ask_560 : decode cX0_ask 560 = .ok (.aload_n 0, 1) := by decide +kernel
theorem eX0_ask_561 : decode cX0_ask 561 = .ok (.getfield 37, 3) := by decide +kernel
theorem eX0_ask_564 : decode cX0_ask 564 = .ok (.getfield 154, 3) := by decide +kernel
theorem eX0_ask_567 : decode cX0_ask 567 = .ok (.invokevirtual 135, 3) := by decide +kernel
theorem eX0_ask_570 : decode cX0_ask 570 = .ok (.ifCond .eq 44, 3) := by decide +kernel
theorem eX0_ask_573 : decode cX0_ask 573 = .ok (.aload_n 0, 1) := by decide +kernel
theorem eX0_ask_574 : decode cX0_ask 574 = .ok (.getfield 37, 3) := by decide +kernel
theorem eX0_ask_577 : decode cX0_ask 577 = .ok (.iload 4, 2) := by decide +kernel
theorem eX0_ask_579 : decode cX0_ask 579 = .ok (.aload_n 0, 1) := by decide +kernel
theorem eX0_ask_580 : decode cX0_ask 580 = .ok (.getfield 37, 3) := by decide +kernel
theorem eX0_ask_583 : decode cX0_ask 583 = .ok (.getfield 154, 3) := by decide +kernel
theorem eX0_ask_586 : decode cX0_ask 586 = .ok (.invokevirtual 135, 3) := by decide +kernel
theorem eX0_ask_589 : decode cX0_ask 589 = .ok (.ifCond .eq 25, 3) := by decide +kernel
theorem eX0_ask_592 : decode cX0_ask 592 = .ok (.aload_n 0, 1) := by decide +kernel
theorem eX0_ask_593 : decode cX0_ask 593 = .ok (.getfield 37, 3) := by decide +kernel
theorem eX0_ask_596 : decode cX0_ask 596 = .ok (.iload_n 2, 1) := by decide +kernel
theorem eX0_ask_597 : decode cX0_ask 597 = .ok (.aload_n 0, 1) := by decide +kernel
theorem eX0_ask_598 : decode cX0_ask 598 = .ok (.getfield 37, 3) := by decide +kernel
theorem eX0_ask_601 : decode cX0_ask 601 = .ok (.getfield 157, 3) := by decide +kernel
theorem eX0_ask_604 : decode cX0_ask 604 = .ok (.invokevirtual 135, 3) := by decide +kernel
theorem eX0_ask_607 : decode cX0_ask 607 = .ok (.ifCond .eq 7, 3) := by decide +kernel
theorem eX0_ask_610 : decode cX0_ask 610 = .ok (.iconst 1, 1) := by decide +kernel
theorem eX0_ask_611 : decode cX0_ask 611 = .ok (.goto 4, 3) := by decide +kernel
theorem eX0_ask_614 : decode cX0_ask 614 = .ok (.iconst 0, 1) := by decide +kernel
theorem eX0_ask_615 : decode cX0_ask 615 = .ok (.ireturn, 1) := by decide +kernel
theorem eX0_ask_616 : decode cX0_ask 616 = .ok (.aload_n 0, 1) := by decide +kernel
theorem eX0_ask_617 : decode cX0_ask 617 = .ok (.getfield 37, 3) := by decide +kernel
theorem eX0_ask_620 : decode cX0_ask 620 = .ok (.aload_n 0, 1) := by decide +kernel
theorem eX0_ask_621 : decode cX0_ask 621 = .ok (.getfield 33, 3) := by decide +kernel
theorem eX0_ask_624 : decode cX0_ask 624 = .ok (.aload_n 0, 1) := by decide +kernel
theorem eX0_ask_625 : decode cX0_ask 625 = .ok (.getfield 9, 3) := by decide +kernel
theorem eX0_ask_628 : decode cX0_ask 628 = .ok (.iload_n 1, 1) := by decide +kernel
theorem eX0_ask_629 : decode cX0_ask 629 = .ok (.iaload, 1) := by decide +kernel
theorem eX0_ask_630 : decode cX0_ask 630 = .ok (.invokevirtual 168, 3) := by decide +kernel
theorem eX0_ask_633 : decode cX0_ask 633 = .ok (.istore 6, 2) := by decide +kernel
theorem eX0_ask_635 : decode cX0_ask 635 = .ok (.aload_n 0, 1) := by decide +kernel
theorem eX0_ask_636 : decode cX0_ask 636 = .ok (.getfield 37, 3) := by decide +kernel
theorem eX0_ask_639 : decode cX0_ask 639 = .ok (.iload_n 2, 1) := by decide +kernel
theorem eX0_ask_640 : decode cX0_ask 640 = .ok (.iload 6, 2) := by decide +kernel
theorem eX0_ask_642 : decode cX0_ask 642 = .ok (.invokevirtual 135, 3) := by decide +kernel
theorem eX0_ask_645 : decode cX0_ask 645 = .ok (.ifCond .eq 20, 3) := by decide +kernel
theorem eX0_ask_648 : decode cX0_ask 648 = .ok (.aload_n 0, 1) := by decide +kernel
theorem eX0_ask_649 : decode cX0_ask 649 = .ok (.getfield 37, 3) := by decide +kernel
theorem eX0_ask_652 : decode cX0_ask 652 = .ok (.iload_n 3, 1) := by decide +kernel
theorem eX0_ask_653 : decode cX0_ask 653 = .ok (.iload 6, 2) := by decide +kernel
theorem eX0_ask_655 : decode cX0_ask 655 = .ok (.invokevirtual 135, 3) := by decide +kernel
theorem eX0_ask_658 : decode cX0_ask 658 = .ok (.ifCond .eq 7, 3) := by decide +kernel
theorem eX0_ask_661 : decode cX0_ask 661 = .ok (.iconst 1, 1) := by decide +kernel
theorem eX0_ask_662 : decode cX0_ask 662 = .ok (.goto 4, 3) := by decide +kernel
theorem eX0_ask_665 : decode cX0_ask 665 = .ok (.iconst 0, 1) := by decide +kernel
theorem eX0_ask_666 : decode cX0_ask 666 = .ok (.ireturn, 1) := by decide +kernel
theorem eX0_ask_667 : decode cX0_ask 667 = .ok (.iconst 1, 1) := by decide +kernel
theorem eX0_ask_668 : decode cX0_ask 668 = .ok (.ireturn, 1) := by decide +kernel
def C_X0_ask (a : Nat) (s : ST) (p : Int) (Q : ST → Int → Prop) : Prop := bx <| isA a → RA s → R32 p → q_met mX0_ask (qs layX s) [.ref a, .int (Int32.ofInt p)] (PB layX Q)
theorem C_X0_ask.mono {a : Nat} {s : ST} {p : Int} {Q Q' : ST → Int → Prop} (h : C_X0_ask a s p Q) (hq : ∀ s v, Q s v → Q' s v) : C_X0_ask a s p Q' := ⟨fun ha hA hrp => q_met.mono (h.1 ha hA hrp) (fun _ _ => PB.mono hq), trivial⟩
set_option maxRecDepth 20000 in
theorem s_X0_ask {a : Nat} {s : ST} {p : Int} {Q : ST → Int → Prop} (h : isA a → RA s → R32 p → ((p < 0 → Q s 1) ∧ (¬ p < 0 → ((p < 400 → (P_X0_kindNode s p ∧ (R32 (3 * p) ∧ (((0 : Int) ≤ (3 * p) ∧ (3 * p) < 1200) ∧ (R32 ((3 * p) + 1) ∧ (((0 : Int) ≤ ((3 * p) + 1) ∧ ((3 * p) + 1) < 1200) ∧ (R32 ((3 * p) + 2) ∧ (((0 : Int) ≤ ((3 * p) + 2) ∧ ((3 * p) + 2) < 1200) ∧ (((0 : Int) ≤ p ∧ p < 400) ∧ (P_X9_sortOf (akT a) s (s.1 (a + 1) p) ∧ (((F_X9_sortOf (akT a) s (s.1 (a + 1) p)) = 0 → (C_X4_join s (2 * p) (s.1 38 0) (fun s12 v12 => (v12 = 0 ∨ v12 = 1) → Q s12 v12))) ∧ ((F_X9_sortOf (akT a) s (s.1 (a + 1) p)) = 1 → (C_X4_join s (2 * p) (s.1 38 1) (fun s13 v13 => (v13 = 0 ∨ v13 = 1) → Q s13 v13))) ∧ ((F_X9_sortOf (akT a) s (s.1 (a + 1) p)) = 2 → (C_X4_join s (2 * p) (s.1 (a + 2) (3 * p)) (fun s14 v14 => (v14 = 0 ∨ v14 = 1) → Q s14 v14))) ∧ ((F_X9_sortOf (akT a) s (s.1 (a + 1) p)) = 3 → (P_X0_boundNode s p ∧ (C_X4_make s 4 ((2 * p) + 1) (s.1 (a + 2) (3 * p)) (fun s17 v17 => (C_X4_join s17 (2 * p) v17 (fun s18 v18 => (v18 = 0 ∨ v18 = 1) → Q s18 v18)))))) ∧ ((F_X9_sortOf (akT a) s (s.1 (a + 1) p)) = 4 → (C_X4_join s (2 * p) (s.1 (a + 2) ((3 * p) + 1)) (fun s19 v19 => (v19 = 0 ∨ v19 = 1) → Q s19 v19))) ∧ ((F_X9_sortOf (akT a) s (s.1 (a + 1) p)) = 5 → (C_X4_join s (s.1 (a + 2) (3 * p)) (s.1 38 1) (fun s20 v20 => (v20 = 0 ∨ v20 = 1) → ((v20 = 0 → Q s20 0) ∧ (¬ v20 = 0 → (C_X4_join s20 (s.1 (a + 2) ((3 * p) + 1)) (s.1 (a + 2) ((3 * p) + 2)) (fun s21 v21 => (v21 = 0 ∨ v21 = 1) → ((v21 = 0 → Q s21 0) ∧ (¬ v21 = 0 → (C_X4_join s21 (2 * p) (s.1 (a + 2) ((3 * p) + 1)) (fun s22 v22 => (v22 = 0 ∨ v22 = 1) → ((v22 = 0 → Q s22 0) ∧ (¬ v22 = 0 → Q s22 1))))))))))))) ∧ ((F_X9_sortOf (akT a) s (s.1 (a + 1) p)) = 6 → (C_X4_make s 4 (s.1 (a + 2) ((3 * p) + 1)) (2 * p) (fun s23 v23 => (C_X4_join s23 (s.1 (a + 2) (3 * p)) v23 (fun s24 v24 => (v24 = 0 ∨ v24 = 1) → Q s24 v24))))) ∧ ((F_X9_sortOf (akT a) s (s.1 (a + 1) p)) = 7 → (C_X4_make s 3 (s.1 (a + 2) (3 * p)) (s.1 (a + 2) ((3 * p) + 1)) (fun s25 v25 => (C_X4_join s25 (2 * p) v25 (fun s26 v26 => (v26 = 0 ∨ v26 = 1) → Q s26 v26))))) ∧ ((F_X9_sortOf (akT a) s (s.1 (a + 1) p)) = 8 → (C_X4_makeOpen s (fun s27 v27 => (C_X4_make s27 3 (2 * p) v27 (fun s28 v28 => (C_X4_join s28 (s.1 (a + 2) (3 * p)) v28 (fun s29 v29 => (v29 = 0 ∨ v29 = 1) → Q s29 v29))))))) ∧ ((F_X9_sortOf (akT a) s (s.1 (a + 1) p)) = 9 → (C_X4_makeOpen s (fun s30 v30 => (C_X4_make s30 3 v30 (2 * p) (fun s31 v31 => (C_X4_join s31 (s.1 (a + 2) (3 * p)) v31 (fun s32 v32 => (v32 = 0 ∨ v32 = 1) → Q s32 v32))))))) ∧ ((F_X9_sortOf (akT a) s (s.1 (a + 1) p)) = 10 → (C_X4_makeOpen s (fun s33 v33 => (C_X4_make s33 2 v33 (-1) (fun s34 v34 => (C_X4_join s34 (2 * p) v34 (fun s35 v35 => (v35 = 0 ∨ v35 = 1) → Q s35 v35))))))) ∧ ((F_X9_sortOf (akT a) s (s.1 (a + 1) p)) = 11 → (C_X4_make s 2 (s.1 (a + 2) (3 * p)) (-1) (fun s36 v36 => (C_X4_join s36 (s.1 (a + 2) ((3 * p) + 1)) v36 (fun s37 v37 => (v37 = 0 ∨ v37 = 1) → ((v37 = 0 → Q s37 0) ∧ (¬ v37 = 0 → (C_X4_join s37 (2 * p) (s.1 (a + 2) ((3 * p) + 1)) (fun s38 v38 => (v38 = 0 ∨ v38 = 1) → ((v38 = 0 → Q s38 0) ∧ (¬ v38 = 0 → Q s38 1))))))))))) ∧ ((F_X9_sortOf (akT a) s (s.1 (a + 1) p)) = 12 → (C_X4_make s 2 (2 * p) (-1) (fun s39 v39 => (C_X4_join s39 (s.1 (a + 2) (3 * p)) v39 (fun s40 v40 => (v40 = 0 ∨ v40 = 1) → Q s40 v40))))) ∧ ((F_X9_sortOf (akT a) s (s.1 (a + 1) p)) = 13 → (C_X4_makeOpen s (fun s41 v41 => (C_X4_make s41 2 v41 (-1) (fun s42 v42 => (C_X4_join s42 (s.1 (a + 2) (3 * p)) v42 (fun s43 v43 => (v43 = 0 ∨ v43 = 1) → ((v43 = 0 → Q s43 0) ∧ (¬ v43 = 0 → (C_X4_join s43 (2 * p) (s.1 (a + 2) (3 * p)) (fun s44 v44 => (v44 = 0 ∨ v44 = 1) → ((v44 = 0 → Q s44 0) ∧ (¬ v44 = 0 → Q s44 1))))))))))))) ∧ ((F_X9_sortOf (akT a) s (s.1 (a + 1) p)) = 14 → (C_X4_join s (s.1 (a + 2) (3 * p)) (s.1 38 0) (fun s45 v45 => (v45 = 0 ∨ v45 = 1) → ((v45 = 0 → Q s45 0) ∧ (¬ v45 = 0 → (C_X4_join s45 (s.1 (a + 2) ((3 * p) + 1)) (s45.1 38 0) (fun s46 v46 => (v46 = 0 ∨ v46 = 1) → ((v46 = 0 → Q s46 0) ∧ (¬ v46 = 0 → (C_X4_join s46 (2 * p) (s46.1 38 0) (fun s47 v47 => (v47 = 0 ∨ v47 = 1) → ((v47 = 0 → Q s47 0) ∧ (¬ v47 = 0 → Q s47 1))))))))))))) ∧ ((F_X9_sortOf (akT a) s (s.1 (a + 1) p)) = 15 → (C_X4_join s (s.1 (a + 2) (3 * p)) (s.1 38 0) (fun s48 v48 => (v48 = 0 ∨ v48 = 1) → ((v48 = 0 → Q s48 0) ∧ (¬ v48 = 0 → (C_X4_join s48 (s.1 (a + 2) ((3 * p) + 1)) (s48.1 38 0) (fun s49 v49 => (v49 = 0 ∨ v49 = 1) → ((v49 = 0 → Q s49 0) ∧ (¬ v49 = 0 → (C_X4_join s49 (2 * p) (s49.1 38 1) (fun s50 v50 => (v50 = 0 ∨ v50 = 1) → ((v50 = 0 → Q s50 0) ∧ (¬ v50 = 0 → Q s50 1))))))))))))) ∧ ((F_X9_sortOf (akT a) s (s.1 (a + 1) p)) = 16 → (C_X4_makeTold (akT a) s (s.1 (a + 1) p) (fun s51 v51 => (C_X4_join s51 (2 * p) v51 (fun s52 v52 => (v52 = 0 ∨ v52 = 1) → ((v52 = 0 → Q s52 0) ∧ (¬ v52 = 0 → (C_X4_join s52 (s.1 (a + 2) (3 * p)) v51 (fun s53 v53 => (v53 = 0 ∨ v53 = 1) → ((v53 = 0 → Q s53 0) ∧ (¬ v53 = 0 → Q s53 1))))))))))) ∧ (((F_X9_sortOf (akT a) s (s.1 (a + 1) p)) < 0 ∨ 16 < (F_X9_sortOf (akT a) s (s.1 (a + 1) p))) → Q s 1)))))))))))) ∧ (¬ p < 400 → Q s 1))))) : C_X0_ask a s p Q := by
  refine ⟨?_, trivial⟩
  intro ha hA hrp
  have h := h ha hA hrp
  refine q_enter (by decide) (Nat.le_of_ble_eq_true rfl) ?_
  refine q_iload_n eX0_ask_0 rfl ?_
  refine q_iz_lt (tgt := 11) (a := p) eX0_ask_1 (by decide) (ofz hrp) (fun c1 => ?_) (fun c1 => ?_)
  · have h := h.1 c1
    refine q_ic (v := Int32.ofInt 1) eX0_ask_11 rfl ?_
    exact q_zret eX0_ask_12 rfl (z01 (Or.inr rfl)) ⟨_, _, rfl, hA, (Or.inr rfl), rfl, h⟩
  · have h := h.2 c1
    refine q_iload_n eX0_ask_4 rfl ?_
    refine q_si (v := Int32.ofInt 400) eX0_ask_5 rfl ?_
    refine q_cz_lt (tgt := 13) (a := p) (b := 400) eX0_ask_8 (by decide) (ofz hrp) (ofz (r32l rfl)) (fun c8 => ?_) (fun c8 => ?_)
    · have h := h.1 c8
      refine q_iload_n eX0_ask_13 rfl ?_
      have f2 := h.1
      have h := h.2
      refine q_S1 eX0_ask_14 DX0_kindNode lX0_78 rfl rfl rfl (p_X0_kindNode f2 hA hrp) ?_
      rintro _ _ ⟨r1, rfl, rfl⟩
      refine q_istore_n eX0_ask_17 (Nat.le_of_ble_eq_true rfl) ?_
      refine q_aload_n eX0_ask_18 rfl ?_
      refine q_getR (c := 0) (n := 0) (k := 9) (a := (a + 2)) eX0_ask_19 (al_0 ha) (by decide) (by decide) fX0_15 rfl (ar_9 ha) ?_
      refine q_ic (v := Int32.ofInt 3) eX0_ask_22 rfl ?_
      refine q_iload_n eX0_ask_23 rfl ?_
      refine z_imul eX0_ask_24 ?_
      have r3 := h.1
      have h := h.2
      have f4 := h.1
      have h := h.2
      refine z_iald (n := 1200) eX0_ask_25 (al_2 ha) (ofz r3) f4 ?_
      refine q_topI (v := Int32.ofInt (s.1 (a + 2) (3 * p))) rfl ?_
      refine q_istore_n eX0_ask_26 (Nat.le_of_ble_eq_true rfl) ?_
      refine q_aload_n eX0_ask_27 rfl ?_
      refine q_getR (c := 0) (n := 0) (k := 9) (a := (a + 2)) eX0_ask_28 (al_0 ha) (by decide) (by decide) fX0_15 rfl (ar_9 ha) ?_
      refine q_ic (v := Int32.ofInt 3) eX0_ask_31 rfl ?_
      refine q_iload_n eX0_ask_32 rfl ?_
      refine z_imul eX0_ask_33 ?_
      refine q_ic (v := Int32.ofInt 1) eX0_ask_34 rfl ?_
      refine z_iadd eX0_ask_35 ?_
      have r5 := h.1
      have h := h.2
      have f6 := h.1
      have h := h.2
      refine z_iald (n := 1200) eX0_ask_36 (al_2 ha) (ofz r5) f6 ?_
      refine q_topI (v := Int32.ofInt (s.1 (a + 2) ((3 * p) + 1))) rfl ?_
      refine q_istore eX0_ask_37 (Nat.le_of_ble_eq_true rfl) ?_
      refine q_aload_n eX0_ask_39 rfl ?_
      refine q_getR (c := 0) (n := 0) (k := 9) (a := (a + 2)) eX0_ask_40 (al_0 ha) (by decide) (by decide) fX0_15 rfl (ar_9 ha) ?_
      refine q_ic (v := Int32.ofInt 3) eX0_ask_43 rfl ?_
      refine q_iload_n eX0_ask_44 rfl ?_
      refine z_imul eX0_ask_45 ?_
      refine q_ic (v := Int32.ofInt 2) eX0_ask_46 rfl ?_
      refine z_iadd eX0_ask_47 ?_
      have r7 := h.1
      have h := h.2
      have f8 := h.1
      have h := h.2
      refine z_iald (n := 1200) eX0_ask_48 (al_2 ha) (ofz r7) f8 ?_
      refine q_topI (v := Int32.ofInt (s.1 (a + 2) ((3 * p) + 2))) rfl ?_
      refine q_istore eX0_ask_49 (Nat.le_of_ble_eq_true rfl) ?_
      refine q_aload_n eX0_ask_51 rfl ?_
      refine q_getR (c := 0) (n := 0) (k := 6) (a := (akT a)) eX0_ask_52 (al_0 ha) (by decide) (by decide) fX0_33 rfl (ar_6 ha) ?_
      refine q_aload_n eX0_ask_55 rfl ?_
      refine q_getR (c := 0) (n := 0) (k := 8) (a := (a + 1)) eX0_ask_56 (al_0 ha) (by decide) (by decide) fX0_9 rfl (ar_8 ha) ?_
      refine q_iload_n eX0_ask_59 rfl ?_
      have f9 := h.1
      have h := h.2
      refine z_iald (n := 400) eX0_ask_60 (al_1 ha) (ofz hrp) f9 ?_
      refine q_topI (v := Int32.ofInt (s.1 (a + 1) p)) rfl ?_
      have f11 := h.1
      have h := h.2
      refine q_V1 (ci := 9) (n := 0) eX0_ask_61 DX9_sortOf lX0_151 (tl_0 (akT_ok ha)) (by decide) rfl rfl rfl rfl (p_X9_sortOf f11 (akT_ok ha) hA (hA _ _)) ?_
      rintro _ _ ⟨r10, rfl, rfl⟩
      refine q_tab17 148 164 180 190 212 223 274 294 314 339 364 389 430 449 494 555 616 667 eX0_ask_64 rfl rfl (by decide) (z := (F_X9_sortOf (akT a) s (s.1 (a + 1) p))) (ofz r10) (fun c64 => ?_) (fun c64 => ?_) (fun c64 => ?_) (fun c64 => ?_) (fun c64 => ?_) (fun c64 => ?_) (fun c64 => ?_) (fun c64 => ?_) (fun c64 => ?_) (fun c64 => ?_) (fun c64 => ?_) (fun c64 => ?_) (fun c64 => ?_) (fun c64 => ?_) (fun c64 => ?_) (fun c64 => ?_) (fun c64 => ?_) (fun c64 => ?_)
      · have h := h.1 c64
        refine q_aload_n eX0_ask_148 rfl ?_
        refine q_getR (c := 0) (n := 0) (k := 7) (a := 38) eX0_ask_149 (al_0 ha) (by decide) (by decide) fX0_37 rfl (ar_7 ha) ?_
        refine q_iload_n eX0_ask_152 rfl ?_
        refine q_aload_n eX0_ask_153 rfl ?_
        refine q_getR (c := 0) (n := 0) (k := 7) (a := 38) eX0_ask_154 (al_0 ha) (by decide) (by decide) fX0_37 rfl (ar_7 ha) ?_
        refine q_getf (c := 4) (n := 0) (k := 0) (v := .int (Int32.ofInt (s.1 38 0))) eX0_ask_157 rfl (by decide) (by decide) fX0_154 rfl ?_
        refine q_V2 (ci := 4) (n := 0) eX0_ask_160 DX4_join lX0_135 rfl (by decide) rfl rfl rfl rfl (h.1 hA r1 (hA _ _)) ?_
        rintro _ _ ⟨s12, v12, rfl, hA12, b12, rfl, h⟩
        have h := h b12
        exact q_zret eX0_ask_163 rfl (z01 b12) ⟨_, _, rfl, hA12, b12, rfl, h⟩
      · have h := h.2.1 c64
        refine q_aload_n eX0_ask_164 rfl ?_
        refine q_getR (c := 0) (n := 0) (k := 7) (a := 38) eX0_ask_165 (al_0 ha) (by decide) (by decide) fX0_37 rfl (ar_7 ha) ?_
        refine q_iload_n eX0_ask_168 rfl ?_
        refine q_aload_n eX0_ask_169 rfl ?_
        refine q_getR (c := 0) (n := 0) (k := 7) (a := 38) eX0_ask_170 (al_0 ha) (by decide) (by decide) fX0_37 rfl (ar_7 ha) ?_
        refine q_getf (c := 4) (n := 0) (k := 1) (v := .int (Int32.ofInt (s.1 38 1))) eX0_ask_173 rfl (by decide) (by decide) fX0_157 rfl ?_
        refine q_V2 (ci := 4) (n := 0) eX0_ask_176 DX4_join lX0_135 rfl (by decide) rfl rfl rfl rfl (h.1 hA r1 (hA _ _)) ?_
        rintro _ _ ⟨s13, v13, rfl, hA13, b13, rfl, h⟩
        have h := h b13
        exact q_zret eX0_ask_179 rfl (z01 b13) ⟨_, _, rfl, hA13, b13, rfl, h⟩
      · have h := h.2.2.1 c64
        refine q_aload_n eX0_ask_180 rfl ?_
        refine q_getR (c := 0) (n := 0) (k := 7) (a := 38) eX0_ask_181 (al_0 ha) (by decide) (by decide) fX0_37 rfl (ar_7 ha) ?_
        refine q_iload_n eX0_ask_184 rfl ?_
        refine q_iload_n eX0_ask_185 rfl ?_
        refine q_V2 (ci := 4) (n := 0) eX0_ask_186 DX4_join lX0_135 rfl (by decide) rfl rfl rfl rfl (h.1 hA r1 (hA _ _)) ?_
        rintro _ _ ⟨s14, v14, rfl, hA14, b14, rfl, h⟩
        have h := h b14
        exact q_zret eX0_ask_189 rfl (z01 b14) ⟨_, _, rfl, hA14, b14, rfl, h⟩
      · have h := h.2.2.2.1 c64
        refine q_aload_n eX0_ask_190 rfl ?_
        refine q_getR (c := 0) (n := 0) (k := 7) (a := 38) eX0_ask_191 (al_0 ha) (by decide) (by decide) fX0_37 rfl (ar_7 ha) ?_
        refine q_iload_n eX0_ask_194 rfl ?_
        refine q_aload_n eX0_ask_195 rfl ?_
        refine q_getR (c := 0) (n := 0) (k := 7) (a := 38) eX0_ask_196 (al_0 ha) (by decide) (by decide) fX0_37 rfl (ar_7 ha) ?_
        refine q_ic (v := Int32.ofInt 4) eX0_ask_199 rfl ?_
        refine q_iload_n eX0_ask_200 rfl ?_
        have f16 := h.1
        have h := h.2
        refine q_S1 eX0_ask_201 DX0_boundNode lX0_104 rfl rfl rfl (p_X0_boundNode f16 hA hrp) ?_
        rintro _ _ ⟨r15, rfl, rfl⟩
        refine q_iload_n eX0_ask_204 rfl ?_
        refine q_V3 (ci := 4) (n := 0) eX0_ask_205 DX4_make lX0_160 rfl (by decide) rfl rfl rfl rfl (h.1 hA (r32l rfl) r15 (hA _ _)) ?_
        rintro _ _ ⟨s17, v17, rfl, hA17, r17, rfl, h⟩
        refine q_V2 (ci := 4) (n := 0) eX0_ask_208 DX4_join lX0_135 rfl (by decide) rfl rfl rfl rfl (h.1 hA17 r1 r17) ?_
        rintro _ _ ⟨s18, v18, rfl, hA18, b18, rfl, h⟩
        have h := h b18
        exact q_zret eX0_ask_211 rfl (z01 b18) ⟨_, _, rfl, hA18, b18, rfl, h⟩
      · have h := h.2.2.2.2.1 c64
        refine q_aload_n eX0_ask_212 rfl ?_
        refine q_getR (c := 0) (n := 0) (k := 7) (a := 38) eX0_ask_213 (al_0 ha) (by decide) (by decide) fX0_37 rfl (ar_7 ha) ?_
        refine q_iload_n eX0_ask_216 rfl ?_
        refine q_iload eX0_ask_217 rfl ?_
        refine q_V2 (ci := 4) (n := 0) eX0_ask_219 DX4_join lX0_135 rfl (by decide) rfl rfl rfl rfl (h.1 hA r1 (hA _ _)) ?_
        rintro _ _ ⟨s19, v19, rfl, hA19, b19, rfl, h⟩
        have h := h b19
        exact q_zret eX0_ask_222 rfl (z01 b19) ⟨_, _, rfl, hA19, b19, rfl, h⟩
      · have h := h.2.2.2.2.2.1 c64
        refine q_aload_n eX0_ask_223 rfl ?_
        refine q_getR (c := 0) (n := 0) (k := 7) (a := 38) eX0_ask_224 (al_0 ha) (by decide) (by decide) fX0_37 rfl (ar_7 ha) ?_
        refine q_iload_n eX0_ask_227 rfl ?_
        refine q_aload_n eX0_ask_228 rfl ?_
        refine q_getR (c := 0) (n := 0) (k := 7) (a := 38) eX0_ask_229 (al_0 ha) (by decide) (by decide) fX0_37 rfl (ar_7 ha) ?_
        refine q_getf (c := 4) (n := 0) (k := 1) (v := .int (Int32.ofInt (s.1 38 1))) eX0_ask_232 rfl (by decide) (by decide) fX0_157 rfl ?_
        refine q_V2 (ci := 4) (n := 0) eX0_ask_235 DX4_join lX0_135 rfl (by decide) rfl rfl rfl rfl (h.1 hA (hA _ _) (hA _ _)) ?_
        rintro _ _ ⟨s20, v20, rfl, hA20, b20, rfl, h⟩
        have h := h b20
        refine q_iz_eq (tgt := 272) (a := v20) eX0_ask_238 (by decide) (ofz (r01 b20)) (fun c238 => ?_) (fun c238 => ?_)
        · have h := h.1 c238
          refine q_ic (v := Int32.ofInt 0) eX0_ask_272 rfl ?_
          exact q_zret eX0_ask_273 rfl (z01 (Or.inl rfl)) ⟨_, _, rfl, hA20, (Or.inl rfl), rfl, h⟩
        · have h := h.2 c238
          refine q_aload_n eX0_ask_241 rfl ?_
          refine q_getR (c := 0) (n := 0) (k := 7) (a := 38) eX0_ask_242 (al_0 ha) (by decide) (by decide) fX0_37 rfl (ar_7 ha) ?_
          refine q_iload eX0_ask_245 rfl ?_
          refine q_iload eX0_ask_247 rfl ?_
          refine q_V2 (ci := 4) (n := 0) eX0_ask_249 DX4_join lX0_135 rfl (by decide) rfl rfl rfl rfl (h.1 hA20 (hA _ _) (hA _ _)) ?_
          rintro _ _ ⟨s21, v21, rfl, hA21, b21, rfl, h⟩
          have h := h b21
          refine q_iz_eq (tgt := 272) (a := v21) eX0_ask_252 (by decide) (ofz (r01 b21)) (fun c252 => ?_) (fun c252 => ?_)
          · have h := h.1 c252
            refine q_ic (v := Int32.ofInt 0) eX0_ask_272 rfl ?_
            exact q_zret eX0_ask_273 rfl (z01 (Or.inl rfl)) ⟨_, _, rfl, hA21, (Or.inl rfl), rfl, h⟩
          · have h := h.2 c252
            refine q_aload_n eX0_ask_255 rfl ?_
            refine q_getR (c := 0) (n := 0) (k := 7) (a := 38) eX0_ask_256 (al_0 ha) (by decide) (by decide) fX0_37 rfl (ar_7 ha) ?_
            refine q_iload_n eX0_ask_259 rfl ?_
            refine q_iload eX0_ask_260 rfl ?_
            refine q_V2 (ci := 4) (n := 0) eX0_ask_262 DX4_join lX0_135 rfl (by decide) rfl rfl rfl rfl (h.1 hA21 r1 (hA _ _)) ?_
            rintro _ _ ⟨s22, v22, rfl, hA22, b22, rfl, h⟩
            have h := h b22
            refine q_iz_eq (tgt := 272) (a := v22) eX0_ask_265 (by decide) (ofz (r01 b22)) (fun c265 => ?_) (fun c265 => ?_)
            · have h := h.1 c265
              refine q_ic (v := Int32.ofInt 0) eX0_ask_272 rfl ?_
              exact q_zret eX0_ask_273 rfl (z01 (Or.inl rfl)) ⟨_, _, rfl, hA22, (Or.inl rfl), rfl, h⟩
            · have h := h.2 c265
              refine q_ic (v := Int32.ofInt 1) eX0_ask_268 rfl ?_
              refine q_goto (tgt := 273) eX0_ask_269 (by decide) ?_
              exact q_zret eX0_ask_273 rfl (z01 (Or.inr rfl)) ⟨_, _, rfl, hA22, (Or.inr rfl), rfl, h⟩
      · have h := h.2.2.2.2.2.2.1 c64
        refine q_aload_n eX0_ask_274 rfl ?_
        refine q_getR (c := 0) (n := 0) (k := 7) (a := 38) eX0_ask_275 (al_0 ha) (by decide) (by decide) fX0_37 rfl (ar_7 ha) ?_
        refine q_iload_n eX0_ask_278 rfl ?_
        refine q_aload_n eX0_ask_279 rfl ?_
        refine q_getR (c := 0) (n := 0) (k := 7) (a := 38) eX0_ask_280 (al_0 ha) (by decide) (by decide) fX0_37 rfl (ar_7 ha) ?_
        refine q_ic (v := Int32.ofInt 4) eX0_ask_283 rfl ?_
        refine q_iload eX0_ask_284 rfl ?_
        refine q_iload_n eX0_ask_286 rfl ?_
        refine q_V3 (ci := 4) (n := 0) eX0_ask_287 DX4_make lX0_160 rfl (by decide) rfl rfl rfl rfl (h.1 hA (r32l rfl) (hA _ _) r1) ?_
        rintro _ _ ⟨s23, v23, rfl, hA23, r23, rfl, h⟩
        refine q_V2 (ci := 4) (n := 0) eX0_ask_290 DX4_join lX0_135 rfl (by decide) rfl rfl rfl rfl (h.1 hA23 (hA _ _) r23) ?_
        rintro _ _ ⟨s24, v24, rfl, hA24, b24, rfl, h⟩
        have h := h b24
        exact q_zret eX0_ask_293 rfl (z01 b24) ⟨_, _, rfl, hA24, b24, rfl, h⟩
      · have h := h.2.2.2.2.2.2.2.1 c64
        refine q_aload_n eX0_ask_294 rfl ?_
        refine q_getR (c := 0) (n := 0) (k := 7) (a := 38) eX0_ask_295 (al_0 ha) (by decide) (by decide) fX0_37 rfl (ar_7 ha) ?_
        refine q_iload_n eX0_ask_298 rfl ?_
        refine q_aload_n eX0_ask_299 rfl ?_
        refine q_getR (c := 0) (n := 0) (k := 7) (a := 38) eX0_ask_300 (al_0 ha) (by decide) (by decide) fX0_37 rfl (ar_7 ha) ?_
        refine q_ic (v := Int32.ofInt 3) eX0_ask_303 rfl ?_
        refine q_iload_n eX0_ask_304 rfl ?_
        refine q_iload eX0_ask_305 rfl ?_
        refine q_V3 (ci := 4) (n := 0) eX0_ask_307 DX4_make lX0_160 rfl (by decide) rfl rfl rfl rfl (h.1 hA (r32l rfl) (hA _ _) (hA _ _)) ?_
        rintro _ _ ⟨s25, v25, rfl, hA25, r25, rfl, h⟩
        refine q_V2 (ci := 4) (n := 0) eX0_ask_310 DX4_join lX0_135 rfl (by decide) rfl rfl rfl rfl (h.1 hA25 r1 r25) ?_
        rintro _ _ ⟨s26, v26, rfl, hA26, b26, rfl, h⟩
        have h := h b26
        exact q_zret eX0_ask_313 rfl (z01 b26) ⟨_, _, rfl, hA26, b26, rfl, h⟩
      · have h := h.2.2.2.2.2.2.2.2.1 c64
        refine q_aload_n eX0_ask_314 rfl ?_
        refine q_getR (c := 0) (n := 0) (k := 7) (a := 38) eX0_ask_315 (al_0 ha) (by decide) (by decide) fX0_37 rfl (ar_7 ha) ?_
        refine q_iload_n eX0_ask_318 rfl ?_
        refine q_aload_n eX0_ask_319 rfl ?_
        refine q_getR (c := 0) (n := 0) (k := 7) (a := 38) eX0_ask_320 (al_0 ha) (by decide) (by decide) fX0_37 rfl (ar_7 ha) ?_
        refine q_ic (v := Int32.ofInt 3) eX0_ask_323 rfl ?_
        refine q_iload_n eX0_ask_324 rfl ?_
        refine q_aload_n eX0_ask_325 rfl ?_
        refine q_getR (c := 0) (n := 0) (k := 7) (a := 38) eX0_ask_326 (al_0 ha) (by decide) (by decide) fX0_37 rfl (ar_7 ha) ?_
        refine q_V0 (ci := 4) (n := 0) eX0_ask_329 DX4_makeOpen lX0_164 rfl (by decide) rfl rfl rfl rfl (h.1 hA) ?_
        rintro _ _ ⟨s27, v27, rfl, hA27, r27, rfl, h⟩
        refine q_V3 (ci := 4) (n := 0) eX0_ask_332 DX4_make lX0_160 rfl (by decide) rfl rfl rfl rfl (h.1 hA27 (r32l rfl) r1 r27) ?_
        rintro _ _ ⟨s28, v28, rfl, hA28, r28, rfl, h⟩
        refine q_V2 (ci := 4) (n := 0) eX0_ask_335 DX4_join lX0_135 rfl (by decide) rfl rfl rfl rfl (h.1 hA28 (hA _ _) r28) ?_
        rintro _ _ ⟨s29, v29, rfl, hA29, b29, rfl, h⟩
        have h := h b29
        exact q_zret eX0_ask_338 rfl (z01 b29) ⟨_, _, rfl, hA29, b29, rfl, h⟩
      · have h := h.2.2.2.2.2.2.2.2.2.1 c64
        refine q_aload_n eX0_ask_339 rfl ?_
        refine q_getR (c := 0) (n := 0) (k := 7) (a := 38) eX0_ask_340 (al_0 ha) (by decide) (by decide) fX0_37 rfl (ar_7 ha) ?_
        refine q_iload_n eX0_ask_343 rfl ?_
        refine q_aload_n eX0_ask_344 rfl ?_
        refine q_getR (c := 0) (n := 0) (k := 7) (a := 38) eX0_ask_345 (al_0 ha) (by decide) (by decide) fX0_37 rfl (ar_7 ha) ?_
        refine q_ic (v := Int32.ofInt 3) eX0_ask_348 rfl ?_
        refine q_aload_n eX0_ask_349 rfl ?_
        refine q_getR (c := 0) (n := 0) (k := 7) (a := 38) eX0_ask_350 (al_0 ha) (by decide) (by decide) fX0_37 rfl (ar_7 ha) ?_
        refine q_V0 (ci := 4) (n := 0) eX0_ask_353 DX4_makeOpen lX0_164 rfl (by decide) rfl rfl rfl rfl (h.1 hA) ?_
        rintro _ _ ⟨s30, v30, rfl, hA30, r30, rfl, h⟩
        refine q_iload_n eX0_ask_356 rfl ?_
        refine q_V3 (ci := 4) (n := 0) eX0_ask_357 DX4_make lX0_160 rfl (by decide) rfl rfl rfl rfl (h.1 hA30 (r32l rfl) r30 r1) ?_
        rintro _ _ ⟨s31, v31, rfl, hA31, r31, rfl, h⟩
        refine q_V2 (ci := 4) (n := 0) eX0_ask_360 DX4_join lX0_135 rfl (by decide) rfl rfl rfl rfl (h.1 hA31 (hA _ _) r31) ?_
        rintro _ _ ⟨s32, v32, rfl, hA32, b32, rfl, h⟩
        have h := h b32
        exact q_zret eX0_ask_363 rfl (z01 b32) ⟨_, _, rfl, hA32, b32, rfl, h⟩
      · have h := h.2.2.2.2.2.2.2.2.2.2.1 c64
        refine q_aload_n eX0_ask_364 rfl ?_
        refine q_getR (c := 0) (n := 0) (k := 7) (a := 38) eX0_ask_365 (al_0 ha) (by decide) (by decide) fX0_37 rfl (ar_7 ha) ?_
        refine q_iload_n eX0_ask_368 rfl ?_
        refine q_aload_n eX0_ask_369 rfl ?_
        refine q_getR (c := 0) (n := 0) (k := 7) (a := 38) eX0_ask_370 (al_0 ha) (by decide) (by decide) fX0_37 rfl (ar_7 ha) ?_
        refine q_ic (v := Int32.ofInt 2) eX0_ask_373 rfl ?_
        refine q_aload_n eX0_ask_374 rfl ?_
        refine q_getR (c := 0) (n := 0) (k := 7) (a := 38) eX0_ask_375 (al_0 ha) (by decide) (by decide) fX0_37 rfl (ar_7 ha) ?_
        refine q_V0 (ci := 4) (n := 0) eX0_ask_378 DX4_makeOpen lX0_164 rfl (by decide) rfl rfl rfl rfl (h.1 hA) ?_
        rintro _ _ ⟨s33, v33, rfl, hA33, r33, rfl, h⟩
        refine q_ic (v := Int32.ofInt (-1)) eX0_ask_381 rfl ?_
        refine q_V3 (ci := 4) (n := 0) eX0_ask_382 DX4_make lX0_160 rfl (by decide) rfl rfl rfl rfl (h.1 hA33 (r32l rfl) r33 (r32l rfl)) ?_
        rintro _ _ ⟨s34, v34, rfl, hA34, r34, rfl, h⟩
        refine q_V2 (ci := 4) (n := 0) eX0_ask_385 DX4_join lX0_135 rfl (by decide) rfl rfl rfl rfl (h.1 hA34 r1 r34) ?_
        rintro _ _ ⟨s35, v35, rfl, hA35, b35, rfl, h⟩
        have h := h b35
        exact q_zret eX0_ask_388 rfl (z01 b35) ⟨_, _, rfl, hA35, b35, rfl, h⟩
      · have h := h.2.2.2.2.2.2.2.2.2.2.2.1 c64
        refine q_aload_n eX0_ask_389 rfl ?_
        refine q_getR (c := 0) (n := 0) (k := 7) (a := 38) eX0_ask_390 (al_0 ha) (by decide) (by decide) fX0_37 rfl (ar_7 ha) ?_
        refine q_iload eX0_ask_393 rfl ?_
        refine q_aload_n eX0_ask_395 rfl ?_
        refine q_getR (c := 0) (n := 0) (k := 7) (a := 38) eX0_ask_396 (al_0 ha) (by decide) (by decide) fX0_37 rfl (ar_7 ha) ?_
        refine q_ic (v := Int32.ofInt 2) eX0_ask_399 rfl ?_
        refine q_iload_n eX0_ask_400 rfl ?_
        refine q_ic (v := Int32.ofInt (-1)) eX0_ask_401 rfl ?_
        refine q_V3 (ci := 4) (n := 0) eX0_ask_402 DX4_make lX0_160 rfl (by decide) rfl rfl rfl rfl (h.1 hA (r32l rfl) (hA _ _) (r32l rfl)) ?_
        rintro _ _ ⟨s36, v36, rfl, hA36, r36, rfl, h⟩
        refine q_V2 (ci := 4) (n := 0) eX0_ask_405 DX4_join lX0_135 rfl (by decide) rfl rfl rfl rfl (h.1 hA36 (hA _ _) r36) ?_
        rintro _ _ ⟨s37, v37, rfl, hA37, b37, rfl, h⟩
        have h := h b37
        refine q_iz_eq (tgt := 428) (a := v37) eX0_ask_408 (by decide) (ofz (r01 b37)) (fun c408 => ?_) (fun c408 => ?_)
        · have h := h.1 c408
          refine q_ic (v := Int32.ofInt 0) eX0_ask_428 rfl ?_
          exact q_zret eX0_ask_429 rfl (z01 (Or.inl rfl)) ⟨_, _, rfl, hA37, (Or.inl rfl), rfl, h⟩
        · have h := h.2 c408
          refine q_aload_n eX0_ask_411 rfl ?_
          refine q_getR (c := 0) (n := 0) (k := 7) (a := 38) eX0_ask_412 (al_0 ha) (by decide) (by decide) fX0_37 rfl (ar_7 ha) ?_
          refine q_iload_n eX0_ask_415 rfl ?_
          refine q_iload eX0_ask_416 rfl ?_
          refine q_V2 (ci := 4) (n := 0) eX0_ask_418 DX4_join lX0_135 rfl (by decide) rfl rfl rfl rfl (h.1 hA37 r1 (hA _ _)) ?_
          rintro _ _ ⟨s38, v38, rfl, hA38, b38, rfl, h⟩
          have h := h b38
          refine q_iz_eq (tgt := 428) (a := v38) eX0_ask_421 (by decide) (ofz (r01 b38)) (fun c421 => ?_) (fun c421 => ?_)
          · have h := h.1 c421
            refine q_ic (v := Int32.ofInt 0) eX0_ask_428 rfl ?_
            exact q_zret eX0_ask_429 rfl (z01 (Or.inl rfl)) ⟨_, _, rfl, hA38, (Or.inl rfl), rfl, h⟩
          · have h := h.2 c421
            refine q_ic (v := Int32.ofInt 1) eX0_ask_424 rfl ?_
            refine q_goto (tgt := 429) eX0_ask_425 (by decide) ?_
            exact q_zret eX0_ask_429 rfl (z01 (Or.inr rfl)) ⟨_, _, rfl, hA38, (Or.inr rfl), rfl, h⟩
      · have h := h.2.2.2.2.2.2.2.2.2.2.2.2.1 c64
        refine q_aload_n eX0_ask_430 rfl ?_
        refine q_getR (c := 0) (n := 0) (k := 7) (a := 38) eX0_ask_431 (al_0 ha) (by decide) (by decide) fX0_37 rfl (ar_7 ha) ?_
        refine q_iload_n eX0_ask_434 rfl ?_
        refine q_aload_n eX0_ask_435 rfl ?_
        refine q_getR (c := 0) (n := 0) (k := 7) (a := 38) eX0_ask_436 (al_0 ha) (by decide) (by decide) fX0_37 rfl (ar_7 ha) ?_
        refine q_ic (v := Int32.ofInt 2) eX0_ask_439 rfl ?_
        refine q_iload_n eX0_ask_440 rfl ?_
        refine q_ic (v := Int32.ofInt (-1)) eX0_ask_441 rfl ?_
        refine q_V3 (ci := 4) (n := 0) eX0_ask_442 DX4_make lX0_160 rfl (by decide) rfl rfl rfl rfl (h.1 hA (r32l rfl) r1 (r32l rfl)) ?_
        rintro _ _ ⟨s39, v39, rfl, hA39, r39, rfl, h⟩
        refine q_V2 (ci := 4) (n := 0) eX0_ask_445 DX4_join lX0_135 rfl (by decide) rfl rfl rfl rfl (h.1 hA39 (hA _ _) r39) ?_
        rintro _ _ ⟨s40, v40, rfl, hA40, b40, rfl, h⟩
        have h := h b40
        exact q_zret eX0_ask_448 rfl (z01 b40) ⟨_, _, rfl, hA40, b40, rfl, h⟩
      · have h := h.2.2.2.2.2.2.2.2.2.2.2.2.2.1 c64
        refine q_aload_n eX0_ask_449 rfl ?_
        refine q_getR (c := 0) (n := 0) (k := 7) (a := 38) eX0_ask_450 (al_0 ha) (by decide) (by decide) fX0_37 rfl (ar_7 ha) ?_
        refine q_iload_n eX0_ask_453 rfl ?_
        refine q_aload_n eX0_ask_454 rfl ?_
        refine q_getR (c := 0) (n := 0) (k := 7) (a := 38) eX0_ask_455 (al_0 ha) (by decide) (by decide) fX0_37 rfl (ar_7 ha) ?_
        refine q_ic (v := Int32.ofInt 2) eX0_ask_458 rfl ?_
        refine q_aload_n eX0_ask_459 rfl ?_
        refine q_getR (c := 0) (n := 0) (k := 7) (a := 38) eX0_ask_460 (al_0 ha) (by decide) (by decide) fX0_37 rfl (ar_7 ha) ?_
        refine q_V0 (ci := 4) (n := 0) eX0_ask_463 DX4_makeOpen lX0_164 rfl (by decide) rfl rfl rfl rfl (h.1 hA) ?_
        rintro _ _ ⟨s41, v41, rfl, hA41, r41, rfl, h⟩
        refine q_ic (v := Int32.ofInt (-1)) eX0_ask_466 rfl ?_
        refine q_V3 (ci := 4) (n := 0) eX0_ask_467 DX4_make lX0_160 rfl (by decide) rfl rfl rfl rfl (h.1 hA41 (r32l rfl) r41 (r32l rfl)) ?_
        rintro _ _ ⟨s42, v42, rfl, hA42, r42, rfl, h⟩
        refine q_V2 (ci := 4) (n := 0) eX0_ask_470 DX4_join lX0_135 rfl (by decide) rfl rfl rfl rfl (h.1 hA42 (hA _ _) r42) ?_
        rintro _ _ ⟨s43, v43, rfl, hA43, b43, rfl, h⟩
        have h := h b43
        refine q_iz_eq (tgt := 492) (a := v43) eX0_ask_473 (by decide) (ofz (r01 b43)) (fun c473 => ?_) (fun c473 => ?_)
        · have h := h.1 c473
          refine q_ic (v := Int32.ofInt 0) eX0_ask_492 rfl ?_
          exact q_zret eX0_ask_493 rfl (z01 (Or.inl rfl)) ⟨_, _, rfl, hA43, (Or.inl rfl), rfl, h⟩
        · have h := h.2 c473
          refine q_aload_n eX0_ask_476 rfl ?_
          refine q_getR (c := 0) (n := 0) (k := 7) (a := 38) eX0_ask_477 (al_0 ha) (by decide) (by decide) fX0_37 rfl (ar_7 ha) ?_
          refine q_iload_n eX0_ask_480 rfl ?_
          refine q_iload_n eX0_ask_481 rfl ?_
          refine q_V2 (ci := 4) (n := 0) eX0_ask_482 DX4_join lX0_135 rfl (by decide) rfl rfl rfl rfl (h.1 hA43 r1 (hA _ _)) ?_
          rintro _ _ ⟨s44, v44, rfl, hA44, b44, rfl, h⟩
          have h := h b44
          refine q_iz_eq (tgt := 492) (a := v44) eX0_ask_485 (by decide) (ofz (r01 b44)) (fun c485 => ?_) (fun c485 => ?_)
          · have h := h.1 c485
            refine q_ic (v := Int32.ofInt 0) eX0_ask_492 rfl ?_
            exact q_zret eX0_ask_493 rfl (z01 (Or.inl rfl)) ⟨_, _, rfl, hA44, (Or.inl rfl), rfl, h⟩
          · have h := h.2 c485
            refine q_ic (v := Int32.ofInt 1) eX0_ask_488 rfl ?_
            refine q_goto (tgt := 493) eX0_ask_489 (by decide) ?_
            exact q_zret eX0_ask_493 rfl (z01 (Or.inr rfl)) ⟨_, _, rfl, hA44, (Or.inr rfl), rfl, h⟩
      · have h := h.2.2.2.2.2.2.2.2.2.2.2.2.2.2.1 c64
        refine q_aload_n eX0_ask_494 rfl ?_
        refine q_getR (c := 0) (n := 0) (k := 7) (a := 38) eX0_ask_495 (al_0 ha) (by decide) (by decide) fX0_37 rfl (ar_7 ha) ?_
        refine q_iload_n eX0_ask_498 rfl ?_
        refine q_aload_n eX0_ask_499 rfl ?_
        refine q_getR (c := 0) (n := 0) (k := 7) (a := 38) eX0_ask_500 (al_0 ha) (by decide) (by decide) fX0_37 rfl (ar_7 ha) ?_
        refine q_getf (c := 4) (n := 0) (k := 0) (v := .int (Int32.ofInt (s.1 38 0))) eX0_ask_503 rfl (by decide) (by decide) fX0_154 rfl ?_
        refine q_V2 (ci := 4) (n := 0) eX0_ask_506 DX4_join lX0_135 rfl (by decide) rfl rfl rfl rfl (h.1 hA (hA _ _) (hA _ _)) ?_
        rintro _ _ ⟨s45, v45, rfl, hA45, b45, rfl, h⟩
        have h := h b45
        refine q_iz_eq (tgt := 553) (a := v45) eX0_ask_509 (by decide) (ofz (r01 b45)) (fun c509 => ?_) (fun c509 => ?_)
        · have h := h.1 c509
          refine q_ic (v := Int32.ofInt 0) eX0_ask_553 rfl ?_
          exact q_zret eX0_ask_554 rfl (z01 (Or.inl rfl)) ⟨_, _, rfl, hA45, (Or.inl rfl), rfl, h⟩
        · have h := h.2 c509
          refine q_aload_n eX0_ask_512 rfl ?_
          refine q_getR (c := 0) (n := 0) (k := 7) (a := 38) eX0_ask_513 (al_0 ha) (by decide) (by decide) fX0_37 rfl (ar_7 ha) ?_
          refine q_iload eX0_ask_516 rfl ?_
          refine q_aload_n eX0_ask_518 rfl ?_
          refine q_getR (c := 0) (n := 0) (k := 7) (a := 38) eX0_ask_519 (al_0 ha) (by decide) (by decide) fX0_37 rfl (ar_7 ha) ?_
          refine q_getf (c := 4) (n := 0) (k := 0) (v := .int (Int32.ofInt (s45.1 38 0))) eX0_ask_522 rfl (by decide) (by decide) fX0_154 rfl ?_
          refine q_V2 (ci := 4) (n := 0) eX0_ask_525 DX4_join lX0_135 rfl (by decide) rfl rfl rfl rfl (h.1 hA45 (hA _ _) (hA45 _ _)) ?_
          rintro _ _ ⟨s46, v46, rfl, hA46, b46, rfl, h⟩
          have h := h b46
          refine q_iz_eq (tgt := 553) (a := v46) eX0_ask_528 (by decide) (ofz (r01 b46)) (fun c528 => ?_) (fun c528 => ?_)
          · have h := h.1 c528
            refine q_ic (v := Int32.ofInt 0) eX0_ask_553 rfl ?_
            exact q_zret eX0_ask_554 rfl (z01 (Or.inl rfl)) ⟨_, _, rfl, hA46, (Or.inl rfl), rfl, h⟩
          · have h := h.2 c528
            refine q_aload_n eX0_ask_531 rfl ?_
            refine q_getR (c := 0) (n := 0) (k := 7) (a := 38) eX0_ask_532 (al_0 ha) (by decide) (by decide) fX0_37 rfl (ar_7 ha) ?_
            refine q_iload_n eX0_ask_535 rfl ?_
            refine q_aload_n eX0_ask_536 rfl ?_
            refine q_getR (c := 0) (n := 0) (k := 7) (a := 38) eX0_ask_537 (al_0 ha) (by decide) (by decide) fX0_37 rfl (ar_7 ha) ?_
            refine q_getf (c := 4) (n := 0) (k := 0) (v := .int (Int32.ofInt (s46.1 38 0))) eX0_ask_540 rfl (by decide) (by decide) fX0_154 rfl ?_
            refine q_V2 (ci := 4) (n := 0) eX0_ask_543 DX4_join lX0_135 rfl (by decide) rfl rfl rfl rfl (h.1 hA46 r1 (hA46 _ _)) ?_
            rintro _ _ ⟨s47, v47, rfl, hA47, b47, rfl, h⟩
            have h := h b47
            refine q_iz_eq (tgt := 553) (a := v47) eX0_ask_546 (by decide) (ofz (r01 b47)) (fun c546 => ?_) (fun c546 => ?_)
            · have h := h.1 c546
              refine q_ic (v := Int32.ofInt 0) eX0_ask_553 rfl ?_
              exact q_zret eX0_ask_554 rfl (z01 (Or.inl rfl)) ⟨_, _, rfl, hA47, (Or.inl rfl), rfl, h⟩
            · have h := h.2 c546
              refine q_ic (v := Int32.ofInt 1) eX0_ask_549 rfl ?_
              refine q_goto (tgt := 554) eX0_ask_550 (by decide) ?_
              exact q_zret eX0_ask_554 rfl (z01 (Or.inr rfl)) ⟨_, _, rfl, hA47, (Or.inr rfl), rfl, h⟩
      · have h := h.2.2.2.2.2.2.2.2.2.2.2.2.2.2.2.1 c64
        refine q_aload_n eX0_ask_555 rfl ?_
        refine q_getR (c := 0) (n := 0) (k := 7) (a := 38) eX0_ask_556 (al_0 ha) (by decide) (by decide) fX0_37 rfl (ar_7 ha) ?_
        refine q_iload_n eX0_ask_559 rfl ?_
        refine q_aload_n eX0_ask_560 rfl ?_
        refine q_getR (c := 0) (n := 0) (k := 7) (a := 38) eX0_ask_561 (al_0 ha) (by decide) (by decide) fX0_37 rfl (ar_7 ha) ?_
        refine q_getf (c := 4) (n := 0) (k := 0) (v := .int (Int32.ofInt (s.1 38 0))) eX0_ask_564 rfl (by decide) (by decide) fX0_154 rfl ?_
        refine q_V2 (ci := 4) (n := 0) eX0_ask_567 DX4_join lX0_135 rfl (by decide) rfl rfl rfl rfl (h.1 hA (hA _ _) (hA _ _)) ?_
        rintro _ _ ⟨s48, v48, rfl, hA48, b48, rfl, h⟩
        have h := h b48
        refine q_iz_eq (tgt := 614) (a := v48) eX0_ask_570 (by decide) (ofz (r01 b48)) (fun c570 => ?_) (fun c570 => ?_)
        · have h := h.1 c570
          refine q_ic (v := Int32.ofInt 0) eX0_ask_614 rfl ?_
          exact q_zret eX0_ask_615 rfl (z01 (Or.inl rfl)) ⟨_, _, rfl, hA48, (Or.inl rfl), rfl, h⟩
        · have h := h.2 c570
          refine q_aload_n eX0_ask_573 rfl ?_
          refine q_getR (c := 0) (n := 0) (k := 7) (a := 38) eX0_ask_574 (al_0 ha) (by decide) (by decide) fX0_37 rfl (ar_7 ha) ?_
          refine q_iload eX0_ask_577 rfl ?_
          refine q_aload_n eX0_ask_579 rfl ?_
          refine q_getR (c := 0) (n := 0) (k := 7) (a := 38) eX0_ask_580 (al_0 ha) (by decide) (by decide) fX0_37 rfl (ar_7 ha) ?_
          refine q_getf (c := 4) (n := 0) (k := 0) (v := .int (Int32.ofInt (s48.1 38 0))) eX0_ask_583 rfl (by decide) (by decide) fX0_154 rfl ?_
          refine q_V2 (ci := 4) (n := 0) eX0_ask_586 DX4_join lX0_135 rfl (by decide) rfl rfl rfl rfl (h.1 hA48 (hA _ _) (hA48 _ _)) ?_
          rintro _ _ ⟨s49, v49, rfl, hA49, b49, rfl, h⟩
          have h := h b49
          refine q_iz_eq (tgt := 614) (a := v49) eX0_ask_589 (by decide) (ofz (r01 b49)) (fun c589 => ?_) (fun c589 => ?_)
          · have h := h.1 c589
            refine q_ic (v := Int32.ofInt 0) eX0_ask_614 rfl ?_
            exact q_zret eX0_ask_615 rfl (z01 (Or.inl rfl)) ⟨_, _, rfl, hA49, (Or.inl rfl), rfl, h⟩
          · have h := h.2 c589
            refine q_aload_n eX0_ask_592 rfl ?_
            refine q_getR (c := 0) (n := 0) (k := 7) (a := 38) eX0_ask_593 (al_0 ha) (by decide) (by decide) fX0_37 rfl (ar_7 ha) ?_
            refine q_iload_n eX0_ask_596 rfl ?_
            refine q_aload_n eX0_ask_597 rfl ?_
            refine q_getR (c := 0) (n := 0) (k := 7) (a := 38) eX0_ask_598 (al_0 ha) (by decide) (by decide) fX0_37 rfl (ar_7 ha) ?_
            refine q_getf (c := 4) (n := 0) (k := 1) (v := .int (Int32.ofInt (s49.1 38 1))) eX0_ask_601 rfl (by decide) (by decide) fX0_157 rfl ?_
            refine q_V2 (ci := 4) (n := 0) eX0_ask_604 DX4_join lX0_135 rfl (by decide) rfl rfl rfl rfl (h.1 hA49 r1 (hA49 _ _)) ?_
            rintro _ _ ⟨s50, v50, rfl, hA50, b50, rfl, h⟩
            have h := h b50
            refine q_iz_eq (tgt := 614) (a := v50) eX0_ask_607 (by decide) (ofz (r01 b50)) (fun c607 => ?_) (fun c607 => ?_)
            · have h := h.1 c607
              refine q_ic (v := Int32.ofInt 0) eX0_ask_614 rfl ?_
              exact q_zret eX0_ask_615 rfl (z01 (Or.inl rfl)) ⟨_, _, rfl, hA50, (Or.inl rfl), rfl, h⟩
            · have h := h.2 c607
              refine q_ic (v := Int32.ofInt 1) eX0_ask_610 rfl ?_
              refine q_goto (tgt := 615) eX0_ask_611 (by decide) ?_
              exact q_zret eX0_ask_615 rfl (z01 (Or.inr rfl)) ⟨_, _, rfl, hA50, (Or.inr rfl), rfl, h⟩
      · have h := h.2.2.2.2.2.2.2.2.2.2.2.2.2.2.2.2.1 c64
        refine q_aload_n eX0_ask_616 rfl ?_
        refine q_getR (c := 0) (n := 0) (k := 7) (a := 38) eX0_ask_617 (al_0 ha) (by decide) (by decide) fX0_37 rfl (ar_7 ha) ?_
        refine q_aload_n eX0_ask_620 rfl ?_
        refine q_getR (c := 0) (n := 0) (k := 6) (a := (akT a)) eX0_ask_621 (al_0 ha) (by decide) (by decide) fX0_33 rfl (ar_6 ha) ?_
        refine q_aload_n eX0_ask_624 rfl ?_
        refine q_getR (c := 0) (n := 0) (k := 8) (a := (a + 1)) eX0_ask_625 (al_0 ha) (by decide) (by decide) fX0_9 rfl (ar_8 ha) ?_
        refine q_iload_n eX0_ask_628 rfl ?_
        refine z_iald (n := 400) eX0_ask_629 (al_1 ha) (ofz hrp) f9 ?_
        refine q_topI (v := Int32.ofInt (s.1 (a + 1) p)) rfl ?_
        refine q_V2 (ci := 4) (n := 0) eX0_ask_630 DX4_makeTold lX0_168 rfl (by decide) rfl rfl rfl rfl (h.1 (akT_ok ha) hA (hA _ _)) ?_
        rintro _ _ ⟨s51, v51, rfl, hA51, r51, rfl, h⟩
        refine q_istore eX0_ask_633 (Nat.le_of_ble_eq_true rfl) ?_
        refine q_aload_n eX0_ask_635 rfl ?_
        refine q_getR (c := 0) (n := 0) (k := 7) (a := 38) eX0_ask_636 (al_0 ha) (by decide) (by decide) fX0_37 rfl (ar_7 ha) ?_
        refine q_iload_n eX0_ask_639 rfl ?_
        refine q_iload eX0_ask_640 rfl ?_
        refine q_V2 (ci := 4) (n := 0) eX0_ask_642 DX4_join lX0_135 rfl (by decide) rfl rfl rfl rfl (h.1 hA51 r1 r51) ?_
        rintro _ _ ⟨s52, v52, rfl, hA52, b52, rfl, h⟩
        have h := h b52
        refine q_iz_eq (tgt := 665) (a := v52) eX0_ask_645 (by decide) (ofz (r01 b52)) (fun c645 => ?_) (fun c645 => ?_)
        · have h := h.1 c645
          refine q_ic (v := Int32.ofInt 0) eX0_ask_665 rfl ?_
          exact q_zret eX0_ask_666 rfl (z01 (Or.inl rfl)) ⟨_, _, rfl, hA52, (Or.inl rfl), rfl, h⟩
        · have h := h.2 c645
          refine q_aload_n eX0_ask_648 rfl ?_
          refine q_getR (c := 0) (n := 0) (k := 7) (a := 38) eX0_ask_649 (al_0 ha) (by decide) (by decide) fX0_37 rfl (ar_7 ha) ?_
          refine q_iload_n eX0_ask_652 rfl ?_
          refine q_iload eX0_ask_653 rfl ?_
          refine q_V2 (ci := 4) (n := 0) eX0_ask_655 DX4_join lX0_135 rfl (by decide) rfl rfl rfl rfl (h.1 hA52 (hA _ _) r51) ?_
          rintro _ _ ⟨s53, v53, rfl, hA53, b53, rfl, h⟩
          have h := h b53
          refine q_iz_eq (tgt := 665) (a := v53) eX0_ask_658 (by decide) (ofz (r01 b53)) (fun c658 => ?_) (fun c658 => ?_)
          · have h := h.1 c658
            refine q_ic (v := Int32.ofInt 0) eX0_ask_665 rfl ?_
            exact q_zret eX0_ask_666 rfl (z01 (Or.inl rfl)) ⟨_, _, rfl, hA53, (Or.inl rfl), rfl, h⟩
          · have h := h.2 c658
            refine q_ic (v := Int32.ofInt 1) eX0_ask_661 rfl ?_
            refine q_goto (tgt := 666) eX0_ask_662 (by decide) ?_
            exact q_zret eX0_ask_666 rfl (z01 (Or.inr rfl)) ⟨_, _, rfl, hA53, (Or.inr rfl), rfl, h⟩
      · have h := h.2.2.2.2.2.2.2.2.2.2.2.2.2.2.2.2.2 c64
        refine q_ic (v := Int32.ofInt 1) eX0_ask_667 rfl ?_
        exact q_zret eX0_ask_668 rfl (z01 (Or.inr rfl)) ⟨_, _, rfl, hA, (Or.inr rfl), rfl, h⟩
    · have h := h.2 c8
      refine q_ic (v := Int32.ofInt 1) eX0_ask_11 rfl ?_
      exact q_zret eX0_ask_12 rfl (z01 (Or.inr rfl)) ⟨_, _, rfl, hA, (Or.inr rfl), rfl, h⟩
theorem eX4_countPart_0 : decode cX4_countPart 0 = .ok (.aload_n 0, 1) := by decide +kernel
theorem eX4_countPart_1 : decode cX4_countPart 1 = .ok (.iload_n 1, 1) := by decide +kernel
theorem eX4_countPart_2 : decode cX4_countPart 2 = .ok (.invokevirtual 48, 3) := by decide +kernel
theorem eX4_countPart_5 : decode cX4_countPart 5 = .ok (.istore_n 2, 1) := by decide +kernel
theorem eX4_countPart_6 : decode cX4_countPart 6 = .ok (.iload_n 2, 1) := by decide +kernel
theorem eX4_countPart_7 : decode cX4_countPart 7 = .ok (.iconst (-1), 1) := by decide +kernel
theorem eX4_countPart_8 : decode cX4_countPart 8 = .ok (.if_icmp .eq 13, 3) := by decide +kernel
theorem eX4_countPart_11 : decode cX4_countPart 11 = .ok (.aload_n 0, 1) := by decide +kernel
theorem eX4_countPart_12 : decode cX4_countPart 12 = .ok (.getfield 24, 3) := by decide +kernel
theorem eX4_countPart_15 : decode cX4_countPart 15 = .ok (.iload_n 2, 1) := by decide +kernel
theorem eX4_countPart_16 : decode cX4_countPart 16 = .ok (.dup2, 1) := by decide +kernel
theorem eX4_countPart_17 : decode cX4_countPart 17 = .ok (.iaload, 1) := by decide +kernel
theorem eX4_countPart_18 : decode cX4_countPart 18 = .ok (.iconst 1, 1) := by decide +kernel
theorem eX4_countPart_19 : decode cX4_countPart 19 = .ok (.iadd, 1) := by decide +kernel
theorem eX4_countPart_20 : decode cX4_countPart 20 = .ok (.iastore, 1) := by decide +kernel
theorem eX4_countPart_21 : decode cX4_countPart 21 = .ok (.return_, 1) := by decide +kernel
def C_X4_countPart (s : ST) (p : Int) (Q : ST → Prop) : Prop := bx <| RA s → R32 p → q_met mX4_countPart (qs layX s) [.ref 38, .int (Int32.ofInt p)] (PV layX Q)
theorem C_X4_countPart.mono {s : ST} {p : Int} {Q Q' : ST → Prop} (h : C_X4_countPart s p Q) (hq : ∀ s, Q s → Q' s) : C_X4_countPart s p Q' := ⟨fun hA hrp => q_met.mono (h.1 hA hrp) (fun _ _ => PV.mono hq), trivial⟩
set_option maxRecDepth 20000 in
theorem s_X4_countPart {s : ST} {p : Int} {Q : ST → Prop} (h : RA s → R32 p → (C_X4_chief s p (fun s1 v1 => ((v1 = (-1) → Q s1) ∧ (¬ v1 = (-1) → (((0 : Int) ≤ v1 ∧ v1 < 5602) ∧ Q (ui s1 43 v1 (w32 (s1.1 43 v1 + 1))))))))) : C_X4_countPart s p Q := by
  refine ⟨?_, trivial⟩
  intro hA hrp
  have h := h hA hrp
  refine q_enter (by decide) (Nat.le_of_ble_eq_true rfl) ?_
  refine q_aload_n eX4_countPart_0 rfl ?_
  refine q_iload_n eX4_countPart_1 rfl ?_
  refine q_V1 (ci := 4) (n := 0) eX4_countPart_2 DX4_chief lX4_48 rfl (by decide) rfl rfl rfl rfl (h.1 hA hrp) ?_
  rintro _ _ ⟨s1, v1, rfl, hA1, r1, rfl, h⟩
  refine q_istore_n eX4_countPart_5 (Nat.le_of_ble_eq_true rfl) ?_
  refine q_iload_n eX4_countPart_6 rfl ?_
  refine q_ic (v := Int32.ofInt (-1)) eX4_countPart_7 rfl ?_
  refine q_cz_eq (tgt := 21) (a := v1) (b := (-1)) eX4_countPart_8 (by decide) (ofz r1) (ofz (r32l rfl)) (fun c8 => ?_) (fun c8 => ?_)
  · have h := h.1 c8
    exact q_ret eX4_countPart_21 rfl ⟨_, rfl, hA1, rfl, h⟩
  · have h := h.2 c8
    refine q_aload_n eX4_countPart_11 rfl ?_
    refine q_getR (c := 4) (n := 0) (k := 7) (a := 43) eX4_countPart_12 rfl (by decide) (by decide) fX4_24 rfl rfl ?_
    refine q_iload_n eX4_countPart_15 rfl ?_
    refine q_dup2 eX4_countPart_16 rfl rfl ?_
    have f2 := h.1
    have h := h.2
    refine z_iald (n := 5602) eX4_countPart_17 rfl (ofz r1) f2 ?_
    refine q_topI (v := Int32.ofInt (s1.1 43 v1)) rfl ?_
    refine q_ic (v := Int32.ofInt 1) eX4_countPart_18 rfl ?_
    refine z_iadd eX4_countPart_19 ?_
    refine q_topI (v := Int32.ofInt (w32 (s1.1 43 v1 + 1))) (w32_of _).symm ?_
    refine z_iast (n := 5602) eX4_countPart_20 rfl (ofz r1) f2  ?_
    exact q_ret eX4_countPart_21 rfl ⟨_, rfl, (ra_ui hA1 (w32_r _)), rfl, h⟩
theorem eX4_takePart_0 : decode cX4_takePart 0 = .ok (.aload_n 0, 1) := by decide +kernel
theorem eX4_takePart_1 : decode cX4_takePart 1 = .ok (.iload_n 1, 1) := by decide +kernel
theorem eX4_takePart_2 : decode cX4_takePart 2 = .ok (.invokevirtual 48, 3) := by decide +kernel
theorem eX4_takePart_5 : decode cX4_takePart 5 = .ok (.istore_n 3, 1) := by decide +kernel
theorem eX4_takePart_6 : decode cX4_takePart 6 = .ok (.iload_n 3, 1) := by decide +kernel
theorem eX4_takePart_7 : decode cX4_takePart 7 = .ok (.iconst (-1), 1) := by decide +kernel
theorem eX4_takePart_8 : decode cX4_takePart 8 = .ok (.if_icmp .ne 5, 3) := by decide +kernel
theorem eX4_takePart_11 : decode cX4_takePart 11 = .ok (.iload_n 2, 1) := by decide +kernel
theorem eX4_takePart_12 : decode cX4_takePart 12 = .ok (.ireturn, 1) := by decide +kernel
theorem eX4_takePart_13 : decode cX4_takePart 13 = .ok (.aload_n 0, 1) := by decide +kernel
theorem eX4_takePart_14 : decode cX4_takePart 14 = .ok (.getfield 24, 3) := by decide +kernel
theorem eX4_takePart_17 : decode cX4_takePart 17 = .ok (.iload_n 3, 1) := by decide +kernel
theorem eX4_takePart_18 : decode cX4_takePart 18 = .ok (.dup2, 1) := by decide +kernel
theorem eX4_takePart_19 : decode cX4_takePart 19 = .ok (.iaload, 1) := by decide +kernel
theorem eX4_takePart_20 : decode cX4_takePart 20 = .ok (.iconst 1, 1) := by decide +kernel
theorem eX4_takePart_21 : decode cX4_takePart 21 = .ok (.isub, 1) := by decide +kernel
theorem eX4_takePart_22 : decode cX4_takePart 22 = .ok (.iastore, 1) := by decide +kernel
theorem eX4_takePart_23 : decode cX4_takePart 23 = .ok (.aload_n 0, 1) := by decide +kernel
theorem eX4_takePart_24 : decode cX4_takePart 24 = .ok (.getfield 24, 3) := by decide +kernel
theorem eX4_takePart_27 : decode cX4_takePart 27 = .ok (.iload_n 3, 1) := by decide +kernel
theorem eX4_takePart_28 : decode cX4_takePart 28 = .ok (.iaload, 1) := by decide +kernel
theorem eX4_takePart_29 : decode cX4_takePart 29 = .ok (.ifCond .ne 16, 3) := by decide +kernel
theorem eX4_takePart_32 : decode cX4_takePart 32 = .ok (.iload_n 2, 1) := by decide +kernel
theorem eX4_takePart_33 : decode cX4_takePart 33 = .ok (.ifCond .lt 12, 3) := by decide +kernel
theorem eX4_takePart_36 : decode cX4_takePart 36 = .ok (.iload_n 2, 1) := by decide +kernel
theorem eX4_takePart_37 : decode cX4_takePart 37 = .ok (.aload_n 0, 1) := by decide +kernel
theorem eX4_takePart_38 : decode cX4_takePart 38 = .ok (.getfield 27, 3) := by decide +kernel
theorem eX4_takePart_41 : decode cX4_takePart 41 = .ok (.arraylength, 1) := by decide +kernel
theorem eX4_takePart_42 : decode cX4_takePart 42 = .ok (.if_icmp .lt 5, 3) := by decide +kernel
theorem eX4_takePart_45 : decode cX4_takePart 45 = .ok (.iload_n 2, 1) := by decide +kernel
theorem eX4_takePart_46 : decode cX4_takePart 46 = .ok (.ireturn, 1) := by decide +kernel
theorem eX4_takePart_47 : decode cX4_takePart 47 = .ok (.aload_n 0, 1) := by decide +kernel
theorem eX4_takePart_48 : decode cX4_takePart 48 = .ok (.getfield 27, 3) := by decide +kernel
theorem eX4_takePart_51 : decode cX4_takePart 51 = .ok (.iload_n 2, 1) := by decide +kernel
theorem eX4_takePart_52 : decode cX4_takePart 52 = .ok (.iload_n 3, 1) := by decide +kernel
theorem eX4_takePart_53 : decode cX4_takePart 53 = .ok (.iastore, 1) := by decide +kernel
theorem eX4_takePart_54 : decode cX4_takePart 54 = .ok (.iload_n 2, 1) := by decide +kernel
theorem eX4_takePart_55 : decode cX4_takePart 55 = .ok (.iconst 1, 1) := by decide +kernel
theorem eX4_takePart_56 : decode cX4_takePart 56 = .ok (.iadd, 1) := by decide +kernel
theorem eX4_takePart_57 : decode cX4_takePart 57 = .ok (.ireturn, 1) := by decide +kernel
def C_X4_takePart (s : ST) (p : Int) (q : Int) (Q : ST → Int → Prop) : Prop := bx <| RA s → R32 p → R32 q → q_met mX4_takePart (qs layX s) [.ref 38, .int (Int32.ofInt p), .int (Int32.ofInt q)] (PI layX Q)
theorem C_X4_takePart.mono {s : ST} {p : Int} {q : Int} {Q Q' : ST → Int → Prop} (h : C_X4_takePart s p q Q) (hq : ∀ s v, Q s v → Q' s v) : C_X4_takePart s p q Q' := ⟨fun hA hrp hrq => q_met.mono (h.1 hA hrp hrq) (fun _ _ => PI.mono hq), trivial⟩
set_option maxRecDepth 20000 in
theorem s_X4_takePart {s : ST} {p : Int} {q : Int} {Q : ST → Int → Prop} (h : RA s → R32 p → R32 q → (C_X4_chief s p (fun s1 v1 => ((¬ v1 = (-1) → (((0 : Int) ≤ v1 ∧ v1 < 5602) ∧ ((¬ (ui s1 43 v1 (w32 (s1.1 43 v1 - 1))).1 43 v1 = 0 → Q (ui s1 43 v1 (w32 (s1.1 43 v1 - 1))) q) ∧ ((ui s1 43 v1 (w32 (s1.1 43 v1 - 1))).1 43 v1 = 0 → ((q < 0 → Q (ui s1 43 v1 (w32 (s1.1 43 v1 - 1))) q) ∧ (¬ q < 0 → ((q < 5604 → (((0 : Int) ≤ q ∧ q < 5604) ∧ (R32 (q + 1) ∧ Q (ui (ui s1 43 v1 (w32 (s1.1 43 v1 - 1))) 44 q v1) (q + 1)))) ∧ (¬ q < 5604 → Q (ui s1 43 v1 (w32 (s1.1 43 v1 - 1))) q)))))))) ∧ (v1 = (-1) → Q s1 q))))) : C_X4_takePart s p q Q := by
  refine ⟨?_, trivial⟩
  intro hA hrp hrq
  have h := h hA hrp hrq
  refine q_enter (by decide) (Nat.le_of_ble_eq_true rfl) ?_
  refine q_aload_n eX4_takePart_0 rfl ?_
  refine q_iload_n eX4_takePart_1 rfl ?_
  refine q_V1 (ci := 4) (n := 0) eX4_takePart_2 DX4_chief lX4_48 rfl (by decide) rfl rfl rfl rfl (h.1 hA hrp) ?_
  rintro _ _ ⟨s1, v1, rfl, hA1, r1, rfl, h⟩
  refine q_istore_n eX4_takePart_5 (Nat.le_of_ble_eq_true rfl) ?_
  refine q_iload_n eX4_takePart_6 rfl ?_
  refine q_ic (v := Int32.ofInt (-1)) eX4_takePart_7 rfl ?_
  refine q_cz_ne (tgt := 13) (a := v1) (b := (-1)) eX4_takePart_8 (by decide) (ofz r1) (ofz (r32l rfl)) (fun c8 => ?_) (fun c8 => ?_)
  · have h := h.1 c8
    refine q_aload_n eX4_takePart_13 rfl ?_
    refine q_getR (c := 4) (n := 0) (k := 7) (a := 43) eX4_takePart_14 rfl (by decide) (by decide) fX4_24 rfl rfl ?_
    refine q_iload_n eX4_takePart_17 rfl ?_
    refine q_dup2 eX4_takePart_18 rfl rfl ?_
    have f2 := h.1
    have h := h.2
    refine z_iald (n := 5602) eX4_takePart_19 rfl (ofz r1) f2 ?_
    refine q_topI (v := Int32.ofInt (s1.1 43 v1)) rfl ?_
    refine q_ic (v := Int32.ofInt 1) eX4_takePart_20 rfl ?_
    refine z_isub eX4_takePart_21 ?_
    refine q_topI (v := Int32.ofInt (w32 (s1.1 43 v1 - 1))) (w32_of _).symm ?_
    refine z_iast (n := 5602) eX4_takePart_22 rfl (ofz r1) f2  ?_
    refine q_aload_n eX4_takePart_23 rfl ?_
    refine q_getR (c := 4) (n := 0) (k := 7) (a := 43) eX4_takePart_24 rfl (by decide) (by decide) fX4_24 rfl rfl ?_
    refine q_iload_n eX4_takePart_27 rfl ?_
    refine z_iald (n := 5602) eX4_takePart_28 rfl (ofz r1) f2 ?_
    refine q_topI (v := Int32.ofInt ((ui s1 43 v1 (w32 (s1.1 43 v1 - 1))).1 43 v1)) rfl ?_
    refine q_iz_ne (tgt := 45) (a := (ui s1 43 v1 (w32 (s1.1 43 v1 - 1))).1 43 v1) eX4_takePart_29 (by decide) (ofz ((ra_ui hA1 (w32_r _)) _ _)) (fun c29 => ?_) (fun c29 => ?_)
    · have h := h.1 c29
      refine q_iload_n eX4_takePart_45 rfl ?_
      exact q_iret eX4_takePart_46 rfl ⟨_, _, rfl, (ra_ui hA1 (w32_r _)), hrq, rfl, h⟩
    · have h := h.2 c29
      refine q_iload_n eX4_takePart_32 rfl ?_
      refine q_iz_lt (tgt := 45) (a := q) eX4_takePart_33 (by decide) (ofz hrq) (fun c33 => ?_) (fun c33 => ?_)
      · have h := h.1 c33
        refine q_iload_n eX4_takePart_45 rfl ?_
        exact q_iret eX4_takePart_46 rfl ⟨_, _, rfl, (ra_ui hA1 (w32_r _)), hrq, rfl, h⟩
      · have h := h.2 c33
        refine q_iload_n eX4_takePart_36 rfl ?_
        refine q_aload_n eX4_takePart_37 rfl ?_
        refine q_getR (c := 4) (n := 0) (k := 8) (a := 44) eX4_takePart_38 rfl (by decide) (by decide) fX4_27 rfl rfl ?_
        refine q_alenz (v := Int32.ofInt 5604) eX4_takePart_41 rfl rfl rfl ?_
        refine q_cz_lt (tgt := 47) (a := q) (b := 5604) eX4_takePart_42 (by decide) (ofz hrq) (ofz (r32l rfl)) (fun c42 => ?_) (fun c42 => ?_)
        · have h := h.1 c42
          refine q_aload_n eX4_takePart_47 rfl ?_
          refine q_getR (c := 4) (n := 0) (k := 8) (a := 44) eX4_takePart_48 rfl (by decide) (by decide) fX4_27 rfl rfl ?_
          refine q_iload_n eX4_takePart_51 rfl ?_
          refine q_iload_n eX4_takePart_52 rfl ?_
          have f3 := h.1
          have h := h.2
          refine z_iast (n := 5604) eX4_takePart_53 rfl (ofz hrq) f3  ?_
          refine q_iload_n eX4_takePart_54 rfl ?_
          refine q_ic (v := Int32.ofInt 1) eX4_takePart_55 rfl ?_
          refine z_iadd eX4_takePart_56 ?_
          have r4 := h.1
          have h := h.2
          exact q_iret eX4_takePart_57 rfl ⟨_, _, rfl, (ra_ui (ra_ui hA1 (w32_r _)) r1), r4, rfl, h⟩
        · have h := h.2 c42
          refine q_iload_n eX4_takePart_45 rfl ?_
          exact q_iret eX4_takePart_46 rfl ⟨_, _, rfl, (ra_ui hA1 (w32_r _)), hrq, rfl, h⟩
  · have h := h.2 c8
    refine q_iload_n eX4_takePart_11 rfl ?_
    exact q_iret eX4_takePart_12 rfl ⟨_, _, rfl, hA1, hrq, rfl, h⟩
