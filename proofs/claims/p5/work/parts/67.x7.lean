/-! STEP ROWS of the class. By program (wip/wp/gen_parts.py). -/
theorem eX7_isLetter_0 : decode cX7_isLetter 0 = .ok (.iload_n 0, 1) := by decide +kernel
theorem eX7_isLetter_1 : decode cX7_isLetter 1 = .ok (.bipush 97, 2) := by decide +kernel
theorem eX7_isLetter_3 : decode cX7_isLetter 3 = .ok (.if_icmp .lt 13, 3) := by decide +kernel
theorem eX7_isLetter_6 : decode cX7_isLetter 6 = .ok (.iload_n 0, 1) := by decide +kernel
theorem eX7_isLetter_7 : decode cX7_isLetter 7 = .ok (.bipush 122, 2) := by decide +kernel
theorem eX7_isLetter_9 : decode cX7_isLetter 9 = .ok (.if_icmp .gt 7, 3) := by decide +kernel
theorem eX7_isLetter_12 : decode cX7_isLetter 12 = .ok (.iconst 1, 1) := by decide +kernel
theorem eX7_isLetter_13 : decode cX7_isLetter 13 = .ok (.goto 4, 3) := by decide +kernel
theorem eX7_isLetter_16 : decode cX7_isLetter 16 = .ok (.iconst 0, 1) := by decide +kernel
theorem eX7_isLetter_17 : decode cX7_isLetter 17 = .ok (.ireturn, 1) := by decide +kernel
def C_X7_isLetter (s : ST) (p : Int) (Q : ST → Int → Prop) : Prop := bx <| RA s → R32 p → q_met mX7_isLetter (qs layX s) [.int (Int32.ofInt p)] (PB layX Q)
theorem C_X7_isLetter.mono {s : ST} {p : Int} {Q Q' : ST → Int → Prop} (h : C_X7_isLetter s p Q) (hq : ∀ s v, Q s v → Q' s v) : C_X7_isLetter s p Q' := ⟨fun hA hrp => q_met.mono (h.1 hA hrp) (fun _ _ => PB.mono hq), trivial⟩
set_option maxRecDepth 20000 in
theorem s_X7_isLetter {s : ST} {p : Int} {Q : ST → Int → Prop} (h : RA s → R32 p → ((p < 97 → Q s 0) ∧ (¬ p < 97 → ((122 < p → Q s 0) ∧ (¬ 122 < p → Q s 1))))) : C_X7_isLetter s p Q := by
  refine ⟨?_, trivial⟩
  intro hA hrp
  have h := h hA hrp
  refine q_enter (by decide) (Nat.le_of_ble_eq_true rfl) ?_
  refine q_iload_n eX7_isLetter_0 rfl ?_
  refine q_bi (v := Int32.ofInt 97) eX7_isLetter_1 rfl ?_
  refine q_cz_lt (tgt := 16) (a := p) (b := 97) eX7_isLetter_3 (by decide) (ofz hrp) (ofz (r32l rfl)) (fun c3 => ?_) (fun c3 => ?_)
  · have h := h.1 c3
    refine q_ic (v := Int32.ofInt 0) eX7_isLetter_16 rfl ?_
    exact q_zret eX7_isLetter_17 rfl (z01 (Or.inl rfl)) ⟨_, _, rfl, hA, (Or.inl rfl), rfl, h⟩
  · have h := h.2 c3
    refine q_iload_n eX7_isLetter_6 rfl ?_
    refine q_bi (v := Int32.ofInt 122) eX7_isLetter_7 rfl ?_
    refine q_cz_gt (tgt := 16) (a := p) (b := 122) eX7_isLetter_9 (by decide) (ofz hrp) (ofz (r32l rfl)) (fun c9 => ?_) (fun c9 => ?_)
    · have h := h.1 c9
      refine q_ic (v := Int32.ofInt 0) eX7_isLetter_16 rfl ?_
      exact q_zret eX7_isLetter_17 rfl (z01 (Or.inl rfl)) ⟨_, _, rfl, hA, (Or.inl rfl), rfl, h⟩
    · have h := h.2 c9
      refine q_ic (v := Int32.ofInt 1) eX7_isLetter_12 rfl ?_
      refine q_goto (tgt := 17) eX7_isLetter_13 (by decide) ?_
      exact q_zret eX7_isLetter_17 rfl (z01 (Or.inr rfl)) ⟨_, _, rfl, hA, (Or.inr rfl), rfl, h⟩
def F_X7_isLetter (s : ST) (p : Int) : Int := (if p < 97 then 0 else (if 122 < p then 0 else 1))
theorem w_X7_isLetter {s : ST} {p : Int} : C_X7_isLetter s p (fun s' v => s' = s ∧ v = F_X7_isLetter s p) := by
  refine s_X7_isLetter (fun hA hrp => ?_)
  refine ⟨fun e0 => ?_, fun e0 => ?_⟩
  · exact ⟨rfl, by unfold F_X7_isLetter; rw [if_pos e0]⟩
  · refine ⟨fun e1 => ?_, fun e1 => ?_⟩
    · exact ⟨rfl, by unfold F_X7_isLetter; rw [if_neg e0, if_pos e1]⟩
    · exact ⟨rfl, by unfold F_X7_isLetter; rw [if_neg e0, if_neg e1]⟩
theorem p_X7_isLetter {s : ST} {p : Int} : RA s → R32 p → q_met mX7_isLetter (qs layX s) [.int (Int32.ofInt p)] (fun σ r => (F_X7_isLetter s p = 0 ∨ F_X7_isLetter s p = 1) ∧ σ = qs layX s ∧ r = some (.int (Int32.ofInt (F_X7_isLetter s p)))) := fun hA hrp => q_met.mono ((w_X7_isLetter).1 hA hrp) (by
  rintro _ _ ⟨s1, v1, rfl, h1, h2, rfl, rfl, rfl⟩
  exact ⟨h2, rfl, rfl⟩)
theorem n_X7_isLetter {s : ST} {p : Int} : ¬ F_X7_isLetter s p = 0 ↔ (¬ p < 97 ∧ ¬ 122 < p) := by
  unfold F_X7_isLetter
  first | omega | ((repeat' split) <;> simp_all) | ((repeat' split) <;> (simp_all <;> omega))
theorem eX7_withLetter_0 : decode cX7_withLetter 0 = .ok (.ldc2_w 215, 3) := by decide +kernel
theorem eX7_withLetter_3 : decode cX7_withLetter 3 = .ok (.lload_n 0, 1) := by decide +kernel
theorem eX7_withLetter_4 : decode cX7_withLetter 4 = .ok (.lmul, 1) := by decide +kernel
theorem eX7_withLetter_5 : decode cX7_withLetter 5 = .ok (.iload_n 2, 1) := by decide +kernel
theorem eX7_withLetter_6 : decode cX7_withLetter 6 = .ok (.bipush 97, 2) := by decide +kernel
theorem eX7_withLetter_8 : decode cX7_withLetter 8 = .ok (.isub, 1) := by decide +kernel
theorem eX7_withLetter_9 : decode cX7_withLetter 9 = .ok (.iconst 1, 1) := by decide +kernel
theorem eX7_withLetter_10 : decode cX7_withLetter 10 = .ok (.iadd, 1) := by decide +kernel
theorem eX7_withLetter_11 : decode cX7_withLetter 11 = .ok (.i2l, 1) := by decide +kernel
theorem eX7_withLetter_12 : decode cX7_withLetter 12 = .ok (.ladd, 1) := by decide +kernel
theorem eX7_withLetter_13 : decode cX7_withLetter 13 = .ok (.lreturn, 1) := by decide +kernel
def C_X7_withLetter (s : ST) (p : Int64) (q : Int) (Q : ST → Int64 → Prop) : Prop := bx <| RA s → R32 q → q_met mX7_withLetter (qs layX s) [.long p, .int (Int32.ofInt q)] (PL layX Q)
theorem C_X7_withLetter.mono {s : ST} {p : Int64} {q : Int} {Q Q' : ST → Int64 → Prop} (h : C_X7_withLetter s p q Q) (hq : ∀ s v, Q s v → Q' s v) : C_X7_withLetter s p q Q' := ⟨fun hA hrq => q_met.mono (h.1 hA hrq) (fun _ _ => PL.mono hq), trivial⟩
set_option maxRecDepth 20000 in
theorem s_X7_withLetter {s : ST} {p : Int64} {q : Int} {Q : ST → Int64 → Prop} (h : RA s → R32 q → (R32 (q - 97) ∧ (R32 ((q - 97) + 1) ∧ Q s ((32 * p) + (Int64.ofInt ((q - 97) + 1)))))) : C_X7_withLetter s p q Q := by
  refine ⟨?_, trivial⟩
  intro hA hrq
  have h := h hA hrq
  refine q_enter (by decide) (Nat.le_of_ble_eq_true rfl) ?_
  refine q_ldc2 (v := 32) eX7_withLetter_0 nX7_215 ?_
  refine q_lload_n eX7_withLetter_3 rfl ?_
  refine q_lmul eX7_withLetter_4 ?_
  refine q_iload_n eX7_withLetter_5 rfl ?_
  refine q_bi (v := Int32.ofInt 97) eX7_withLetter_6 rfl ?_
  refine z_isub eX7_withLetter_8 ?_
  have r1 := h.1
  have h := h.2
  refine q_ic (v := Int32.ofInt 1) eX7_withLetter_9 rfl ?_
  refine z_iadd eX7_withLetter_10 ?_
  have r2 := h.1
  have h := h.2
  refine z_i2l eX7_withLetter_11 r2 ?_
  refine q_ladd eX7_withLetter_12 ?_
  exact q_lret eX7_withLetter_13 rfl ⟨_, _, rfl, hA, rfl, h⟩
def F_X7_withLetter (s : ST) (p : Int64) (q : Int) : Int64 := ((32 * p) + (Int64.ofInt ((q - 97) + 1)))
abbrev P_X7_withLetter (s : ST) (p : Int64) (q : Int) : Prop := (R32 (q - 97) ∧ R32 ((q - 97) + 1))
theorem w_X7_withLetter {s : ST} {p : Int64} {q : Int} (h : P_X7_withLetter s p q) : C_X7_withLetter s p q (fun s' v => s' = s ∧ v = F_X7_withLetter s p q) := by
  refine s_X7_withLetter (fun hA hrq => ?_)
  unfold P_X7_withLetter at h
  refine ⟨h.1, ?_⟩
  have h := h.2
  refine ⟨h, ?_⟩
  exact ⟨rfl, rfl⟩
theorem p_X7_withLetter {s : ST} {p : Int64} {q : Int} (h : P_X7_withLetter s p q) : RA s → R32 q → q_met mX7_withLetter (qs layX s) [.long p, .int (Int32.ofInt q)] (fun σ r => σ = qs layX s ∧ r = some (.long (F_X7_withLetter s p q))) := fun hA hrq => q_met.mono ((w_X7_withLetter h).1 hA hrq) (by
  rintro _ _ ⟨s1, v1, rfl, h1, rfl, rfl, rfl⟩
  exact ⟨rfl, rfl⟩)
theorem eX7_readWord_0 : decode cX7_readWord 0 = .ok (.aload_n 0, 1) := by decide +kernel
theorem eX7_readWord_1 : decode cX7_readWord 1 = .ok (.lconst 0, 1) := by decide +kernel
theorem eX7_readWord_2 : decode cX7_readWord 2 = .ok (.putfield 108, 3) := by decide +kernel
theorem eX7_readWord_5 : decode cX7_readWord 5 = .ok (.iconst 0, 1) := by decide +kernel
theorem eX7_readWord_6 : decode cX7_readWord 6 = .ok (.istore_n 1, 1) := by decide +kernel
theorem eX7_readWord_7 : decode cX7_readWord 7 = .ok (.iload_n 1, 1) := by decide +kernel
theorem eX7_readWord_8 : decode cX7_readWord 8 = .ok (.sipush 1600, 3) := by decide +kernel
theorem eX7_readWord_11 : decode cX7_readWord 11 = .ok (.if_icmp .gt 52, 3) := by decide +kernel
theorem eX7_readWord_14 : decode cX7_readWord 14 = .ok (.aload_n 0, 1) := by decide +kernel
theorem eX7_readWord_15 : decode cX7_readWord 15 = .ok (.aload_n 0, 1) := by decide +kernel
theorem eX7_readWord_16 : decode cX7_readWord 16 = .ok (.getfield 63, 3) := by decide +kernel
theorem eX7_readWord_19 : decode cX7_readWord 19 = .ok (.invokevirtual 197, 3) := by decide +kernel
theorem eX7_readWord_22 : decode cX7_readWord 22 = .ok (.invokestatic 203, 3) := by decide +kernel
theorem eX7_readWord_25 : decode cX7_readWord 25 = .ok (.ifCond .eq 38, 3) := by decide +kernel
theorem eX7_readWord_28 : decode cX7_readWord 28 = .ok (.aload_n 0, 1) := by decide +kernel
theorem eX7_readWord_29 : decode cX7_readWord 29 = .ok (.aload_n 0, 1) := by decide +kernel
theorem eX7_readWord_30 : decode cX7_readWord 30 = .ok (.getfield 108, 3) := by decide +kernel
theorem eX7_readWord_33 : decode cX7_readWord 33 = .ok (.aload_n 0, 1) := by decide +kernel
theorem eX7_readWord_34 : decode cX7_readWord 34 = .ok (.aload_n 0, 1) := by decide +kernel
theorem eX7_readWord_35 : decode cX7_readWord 35 = .ok (.getfield 63, 3) := by decide +kernel
theorem eX7_readWord_38 : decode cX7_readWord 38 = .ok (.invokevirtual 197, 3) := by decide +kernel
theorem eX7_readWord_41 : decode cX7_readWord 41 = .ok (.invokestatic 49, 3) := by decide +kernel
theorem eX7_readWord_44 : decode cX7_readWord 44 = .ok (.putfield 108, 3) := by decide +kernel
theorem eX7_readWord_47 : decode cX7_readWord 47 = .ok (.aload_n 0, 1) := by decide +kernel
theorem eX7_readWord_48 : decode cX7_readWord 48 = .ok (.dup, 1) := by decide +kernel
theorem eX7_readWord_49 : decode cX7_readWord 49 = .ok (.getfield 63, 3) := by decide +kernel
theorem eX7_readWord_52 : decode cX7_readWord 52 = .ok (.iconst 1, 1) := by decide +kernel
theorem eX7_readWord_53 : decode cX7_readWord 53 = .ok (.iadd, 1) := by decide +kernel
theorem eX7_readWord_54 : decode cX7_readWord 54 = .ok (.putfield 63, 3) := by decide +kernel
theorem eX7_readWord_57 : decode cX7_readWord 57 = .ok (.iinc 1 1, 3) := by decide +kernel
theorem eX7_readWord_60 : decode cX7_readWord 60 = .ok (.goto (-53), 3) := by decide +kernel
theorem eX7_readWord_63 : decode cX7_readWord 63 = .ok (.aload_n 0, 1) := by decide +kernel
theorem eX7_readWord_64 : decode cX7_readWord 64 = .ok (.aload_n 0, 1) := by decide +kernel
theorem eX7_readWord_65 : decode cX7_readWord 65 = .ok (.getfield 63, 3) := by decide +kernel
theorem eX7_readWord_68 : decode cX7_readWord 68 = .ok (.aload_n 0, 1) := by decide +kernel
theorem eX7_readWord_69 : decode cX7_readWord 69 = .ok (.getfield 81, 3) := by decide +kernel
theorem eX7_readWord_72 : decode cX7_readWord 72 = .ok (.isub, 1) := by decide +kernel
theorem eX7_readWord_73 : decode cX7_readWord 73 = .ok (.bipush 8, 2) := by decide +kernel
theorem eX7_readWord_75 : decode cX7_readWord 75 = .ok (.if_icmp .le 7, 3) := by decide +kernel
theorem eX7_readWord_78 : decode cX7_readWord 78 = .ok (.iconst 4, 1) := by decide +kernel
theorem eX7_readWord_79 : decode cX7_readWord 79 = .ok (.goto 4, 3) := by decide +kernel
theorem eX7_readWord_82 : decode cX7_readWord 82 = .ok (.iconst 1, 1) := by decide +kernel
theorem eX7_readWord_83 : decode cX7_readWord 83 = .ok (.putfield 69, 3) := by decide +kernel
theorem eX7_readWord_86 : decode cX7_readWord 86 = .ok (.iconst 0, 1) := by decide +kernel
theorem eX7_readWord_87 : decode cX7_readWord 87 = .ok (.istore_n 1, 1) := by decide +kernel
theorem eX7_readWord_88 : decode cX7_readWord 88 = .ok (.iload_n 1, 1) := by decide +kernel
theorem eX7_readWord_89 : decode cX7_readWord 89 = .ok (.bipush 24, 2) := by decide +kernel
theorem eX7_readWord_91 : decode cX7_readWord 91 = .ok (.if_icmp .ge 29, 3) := by decide +kernel
theorem eX7_readWord_94 : decode cX7_readWord 94 = .ok (.aload_n 0, 1) := by decide +kernel
theorem eX7_readWord_95 : decode cX7_readWord 95 = .ok (.getfield 15, 3) := by decide +kernel
theorem eX7_readWord_98 : decode cX7_readWord 98 = .ok (.iload_n 1, 1) := by decide +kernel
theorem eX7_readWord_99 : decode cX7_readWord 99 = .ok (.laload, 1) := by decide +kernel
theorem eX7_readWord_100 : decode cX7_readWord 100 = .ok (.aload_n 0, 1) := by decide +kernel
theorem eX7_readWord_101 : decode cX7_readWord 101 = .ok (.getfield 108, 3) := by decide +kernel
theorem eX7_readWord_104 : decode cX7_readWord 104 = .ok (.lcmp, 1) := by decide +kernel
theorem eX7_readWord_105 : decode cX7_readWord 105 = .ok (.ifCond .ne 9, 3) := by decide +kernel
theorem eX7_readWord_108 : decode cX7_readWord 108 = .ok (.aload_n 0, 1) := by decide +kernel
theorem eX7_readWord_109 : decode cX7_readWord 109 = .ok (.iload_n 1, 1) := by decide +kernel
theorem eX7_readWord_110 : decode cX7_readWord 110 = .ok (.putfield 88, 3) := by decide +kernel
theorem eX7_readWord_113 : decode cX7_readWord 113 = .ok (.return_, 1) := by decide +kernel
theorem eX7_readWord_114 : decode cX7_readWord 114 = .ok (.iinc 1 1, 3) := by decide +kernel
theorem eX7_readWord_117 : decode cX7_readWord 117 = .ok (.goto (-29), 3) := by decide +kernel
theorem eX7_readWord_120 : decode cX7_readWord 120 = .ok (.return_, 1) := by decide +kernel
def C_X7_readWord (s : ST) (Q : ST → Prop) : Prop := bx <| RA s → q_met mX7_readWord (qs layX s) [.ref 46] (PV layX Q)
theorem C_X7_readWord.mono {s : ST} {Q Q' : ST → Prop} (h : C_X7_readWord s Q) (hq : ∀ s, Q s → Q' s) : C_X7_readWord s Q' := ⟨fun hA => q_met.mono (h.1 hA) (fun _ _ => PV.mono hq), trivial⟩
def K_X7_readWord_88 (s : ST) (a1 : Int) (Q : ST → Prop) : Prop := bx <| RA s → R32 a1 → q_K mX7_readWord (qs layX s) 0 0 88 [(0, .ref 46), (1, .int (Int32.ofInt a1))] [] (q_fin mX7_readWord (PV layX Q))
def K_X7_readWord_63 (s : ST) (Q : ST → Prop) : Prop := bx <| RA s → q_K mX7_readWord (qs layX s) 0 0 63 [(0, .ref 46)] [] (q_fin mX7_readWord (PV layX Q))
def K_X7_readWord_7 (s : ST) (a1 : Int) (Q : ST → Prop) : Prop := bx <| RA s → R32 a1 → q_K mX7_readWord (qs layX s) 0 0 7 [(0, .ref 46), (1, .int (Int32.ofInt a1))] [] (q_fin mX7_readWord (PV layX Q))
set_option maxRecDepth 20000 in
theorem s_X7_readWord_88 {s : ST} {a1 : Int} {Q : ST → Prop} (h : RA s → R32 a1 → ((24 ≤ a1 → Q s) ∧ (¬ 24 ≤ a1 → (((0 : Int) ≤ a1 ∧ a1 < 24) ∧ ((¬ (s.2 47 a1) = (s.2 46 7) → (R32 (a1 + 1) ∧ K_X7_readWord_88 s (a1 + 1) Q)) ∧ ((s.2 47 a1) = (s.2 46 7) → Q (ui s 46 9 a1))))))) : K_X7_readWord_88 s a1 Q := by
  refine ⟨?_, trivial⟩
  intro hA hra1
  have h := h hA hra1
  refine q_iload_n eX7_readWord_88 rfl ?_
  refine q_bi (v := Int32.ofInt 24) eX7_readWord_89 rfl ?_
  refine q_cz_ge (tgt := 120) (a := a1) (b := 24) eX7_readWord_91 (by decide) (ofz hra1) (ofz (r32l rfl)) (fun c91 => ?_) (fun c91 => ?_)
  · have h := h.1 c91
    exact q_ret eX7_readWord_120 rfl ⟨_, rfl, hA, rfl, h⟩
  · have h := h.2 c91
    refine q_aload_n eX7_readWord_94 rfl ?_
    refine q_getR (c := 7) (n := 0) (k := 11) (a := 47) eX7_readWord_95 rfl (by decide) (by decide) fX7_15 rfl rfl ?_
    refine q_iload_n eX7_readWord_98 rfl ?_
    have f1 := h.1
    have h := h.2
    refine z_lald (n := 24) eX7_readWord_99 rfl (ofz hra1) f1 ?_
    refine q_topL (v := s.2 47 a1) rfl ?_
    refine q_aload_n eX7_readWord_100 rfl ?_
    refine q_getf (c := 7) (n := 0) (k := 7) (v := .long (s.2 46 7)) eX7_readWord_101 rfl (by decide) (by decide) fX7_108 rfl ?_
    refine q_lcmp eX7_readWord_104 ?_
    refine z_lc_ne (tgt := 114) eX7_readWord_105 (by decide) (fun c105 => ?_) (fun c105 => ?_)
    · have h := h.1 c105
      have r2 := h.1
      have h := h.2
      refine z_inc (m := 1) eX7_readWord_114 rfl (Nat.le_of_ble_eq_true rfl) rfl ?_
      refine q_goto (tgt := 88) eX7_readWord_117 (by decide) ?_
      exact q_subL rfl (h.1 hA r2)
    · have h := h.2 c105
      refine q_aload_n eX7_readWord_108 rfl ?_
      refine q_iload_n eX7_readWord_109 rfl ?_
      refine z_putI (c := 7) (n := 0) (k := 9) (kz := 9) eX7_readWord_110 rfl (by decide) (by decide) fX7_88 rfl rfl rfl ?_
      exact q_ret eX7_readWord_113 rfl ⟨_, rfl, (ra_ui hA hra1), rfl, h⟩
set_option maxRecDepth 20000 in
theorem s_X7_readWord_63 {s : ST} {Q : ST → Prop} (h : RA s → (R32 (s.1 46 4 - s.1 46 6) ∧ (((s.1 46 4 - s.1 46 6) ≤ 8 → K_X7_readWord_88 (ui s 46 5 1) 0 Q) ∧ (¬ (s.1 46 4 - s.1 46 6) ≤ 8 → K_X7_readWord_88 (ui s 46 5 4) 0 Q)))) : K_X7_readWord_63 s Q := by
  refine ⟨?_, trivial⟩
  intro hA
  have h := h hA
  refine q_aload_n eX7_readWord_63 rfl ?_
  refine q_aload_n eX7_readWord_64 rfl ?_
  refine q_getf (c := 7) (n := 0) (k := 4) (v := .int (Int32.ofInt (s.1 46 4))) eX7_readWord_65 rfl (by decide) (by decide) fX7_63 rfl ?_
  refine q_aload_n eX7_readWord_68 rfl ?_
  refine q_getf (c := 7) (n := 0) (k := 6) (v := .int (Int32.ofInt (s.1 46 6))) eX7_readWord_69 rfl (by decide) (by decide) fX7_81 rfl ?_
  refine z_isub eX7_readWord_72 ?_
  have r1 := h.1
  have h := h.2
  refine q_bi (v := Int32.ofInt 8) eX7_readWord_73 rfl ?_
  refine q_cz_le (tgt := 82) (a := (s.1 46 4 - s.1 46 6)) (b := 8) eX7_readWord_75 (by decide) (ofz r1) (ofz (r32l rfl)) (fun c75 => ?_) (fun c75 => ?_)
  · have h := h.1 c75
    refine q_ic (v := Int32.ofInt 1) eX7_readWord_82 rfl ?_
    refine z_putI (c := 7) (n := 0) (k := 5) (kz := 5) eX7_readWord_83 rfl (by decide) (by decide) fX7_69 rfl rfl rfl ?_
    refine q_ic (v := Int32.ofInt 0) eX7_readWord_86 rfl ?_
    refine q_istore_n eX7_readWord_87 (Nat.le_of_ble_eq_true rfl) ?_
    exact q_subL rfl (h.1 (ra_ui hA (r32l rfl)) (r32l rfl))
  · have h := h.2 c75
    refine q_ic (v := Int32.ofInt 4) eX7_readWord_78 rfl ?_
    refine q_goto (tgt := 83) eX7_readWord_79 (by decide) ?_
    refine z_putI (c := 7) (n := 0) (k := 5) (kz := 5) eX7_readWord_83 rfl (by decide) (by decide) fX7_69 rfl rfl rfl ?_
    refine q_ic (v := Int32.ofInt 0) eX7_readWord_86 rfl ?_
    refine q_istore_n eX7_readWord_87 (Nat.le_of_ble_eq_true rfl) ?_
    exact q_subL rfl (h.1 (ra_ui hA (r32l rfl)) (r32l rfl))
set_option maxRecDepth 20000 in
theorem s_X7_readWord_7 {s : ST} {a1 : Int} {Q : ST → Prop} (h : RA s → R32 a1 → ((1600 < a1 → K_X7_readWord_63 s Q) ∧ (¬ 1600 < a1 → (P_X7_signAt s (s.1 46 4) ∧ ((¬ (¬ (F_X7_signAt s (s.1 46 4)) < 97 ∧ ¬ 122 < (F_X7_signAt s (s.1 46 4))) → K_X7_readWord_63 s Q) ∧ ((¬ (F_X7_signAt s (s.1 46 4)) < 97 ∧ ¬ 122 < (F_X7_signAt s (s.1 46 4))) → (P_X7_withLetter s (s.2 46 7) (F_X7_signAt s (s.1 46 4)) ∧ (R32 (s.1 46 4 + 1) ∧ (R32 (a1 + 1) ∧ K_X7_readWord_7 (ui (uj s 46 7 ((32 * (s.2 46 7)) + (Int64.ofInt (((F_X7_signAt s (s.1 46 4)) - 97) + 1)))) 46 4 (s.1 46 4 + 1)) (a1 + 1) Q))))))))) : K_X7_readWord_7 s a1 Q := by
  refine ⟨?_, trivial⟩
  intro hA hra1
  have h := h hA hra1
  refine q_iload_n eX7_readWord_7 rfl ?_
  refine q_si (v := Int32.ofInt 1600) eX7_readWord_8 rfl ?_
  refine q_cz_gt (tgt := 63) (a := a1) (b := 1600) eX7_readWord_11 (by decide) (ofz hra1) (ofz (r32l rfl)) (fun c11 => ?_) (fun c11 => ?_)
  · have h := h.1 c11
    exact q_subL rfl (h.1 hA)
  · have h := h.2 c11
    refine q_aload_n eX7_readWord_14 rfl ?_
    refine q_aload_n eX7_readWord_15 rfl ?_
    refine q_getf (c := 7) (n := 0) (k := 4) (v := .int (Int32.ofInt (s.1 46 4))) eX7_readWord_16 rfl (by decide) (by decide) fX7_63 rfl ?_
    have f2 := h.1
    have h := h.2
    refine q_V1 (ci := 7) (n := 0) eX7_readWord_19 DX7_signAt lX7_197 rfl (by decide) rfl rfl rfl rfl (p_X7_signAt f2 hA (hA _ _)) ?_
    rintro _ _ ⟨r1, rfl, rfl⟩
    refine q_S1 eX7_readWord_22 DX7_isLetter lX7_203 rfl rfl rfl (p_X7_isLetter hA r1) ?_
    rintro _ _ ⟨b3, rfl, rfl⟩
    refine q_iz_eq (tgt := 63) (a := (F_X7_isLetter s (F_X7_signAt s (s.1 46 4)))) eX7_readWord_25 (by decide) (ofz (r01 b3)) (fun c25 => ?_) (fun c25 => ?_)
    · have h := h.1 (fun q => n_X7_isLetter.mpr q c25)
      exact q_subL rfl (h.1 hA)
    · have h := h.2 (n_X7_isLetter.mp c25)
      refine q_aload_n eX7_readWord_28 rfl ?_
      refine q_aload_n eX7_readWord_29 rfl ?_
      refine q_getf (c := 7) (n := 0) (k := 7) (v := .long (s.2 46 7)) eX7_readWord_30 rfl (by decide) (by decide) fX7_108 rfl ?_
      refine q_aload_n eX7_readWord_33 rfl ?_
      refine q_aload_n eX7_readWord_34 rfl ?_
      refine q_getf (c := 7) (n := 0) (k := 4) (v := .int (Int32.ofInt (s.1 46 4))) eX7_readWord_35 rfl (by decide) (by decide) fX7_63 rfl ?_
      refine q_V1 (ci := 7) (n := 0) eX7_readWord_38 DX7_signAt lX7_197 rfl (by decide) rfl rfl rfl rfl (p_X7_signAt f2 hA (hA _ _)) ?_
      rintro _ _ ⟨r4, rfl, rfl⟩
      have f6 := h.1
      have h := h.2
      refine q_S2 eX7_readWord_41 DX7_withLetter lX7_49 rfl rfl rfl (p_X7_withLetter f6 hA r4) ?_
      rintro _ _ ⟨rfl, rfl⟩
      refine z_putJ (c := 7) (n := 0) (k := 7) (kz := 7) eX7_readWord_44 rfl (by decide) (by decide) fX7_108 rfl rfl rfl ?_
      refine q_aload_n eX7_readWord_47 rfl ?_
      refine q_dup eX7_readWord_48 rfl ?_
      refine q_getf (c := 7) (n := 0) (k := 4) (v := .int (Int32.ofInt (s.1 46 4))) eX7_readWord_49 rfl (by decide) (by decide) fX7_63 rfl ?_
      refine q_ic (v := Int32.ofInt 1) eX7_readWord_52 rfl ?_
      refine z_iadd eX7_readWord_53 ?_
      have r7 := h.1
      have h := h.2
      refine z_putI (c := 7) (n := 0) (k := 4) (kz := 4) eX7_readWord_54 rfl (by decide) (by decide) fX7_63 rfl rfl rfl ?_
      have r8 := h.1
      have h := h.2
      refine z_inc (m := 1) eX7_readWord_57 rfl (Nat.le_of_ble_eq_true rfl) rfl ?_
      refine q_goto (tgt := 7) eX7_readWord_60 (by decide) ?_
      exact q_subL rfl (h.1 (ra_ui (ra_uj hA) r7) r8)
set_option maxRecDepth 20000 in
theorem s_X7_readWord {s : ST} {Q : ST → Prop} (h : RA s → K_X7_readWord_7 (uj s 46 7 0) 0 Q) : C_X7_readWord s Q := by
  refine ⟨?_, trivial⟩
  intro hA
  have h := h hA
  refine q_enter (by decide) (Nat.le_of_ble_eq_true rfl) ?_
  refine q_aload_n eX7_readWord_0 rfl ?_
  refine q_lc (v := 0) eX7_readWord_1 rfl ?_
  refine z_putJ (c := 7) (n := 0) (k := 7) (kz := 7) eX7_readWord_2 rfl (by decide) (by decide) fX7_108 rfl rfl rfl ?_
  refine q_ic (v := Int32.ofInt 0) eX7_readWord_5 rfl ?_
  refine q_istore_n eX7_readWord_6 (Nat.le_of_ble_eq_true rfl) ?_
  exact q_subL rfl (h.1 (ra_uj hA) (r32l rfl))
theorem eX7_isDigit_0 : decode cX7_isDigit 0 = .ok (.iload_n 0, 1) := by decide +kernel
theorem eX7_isDigit_1 : decode cX7_isDigit 1 = .ok (.bipush 48, 2) := by decide +kernel
theorem eX7_isDigit_3 : decode cX7_isDigit 3 = .ok (.if_icmp .lt 13, 3) := by decide +kernel
theorem eX7_isDigit_6 : decode cX7_isDigit 6 = .ok (.iload_n 0, 1) := by decide +kernel
theorem eX7_isDigit_7 : decode cX7_isDigit 7 = .ok (.bipush 57, 2) := by decide +kernel
theorem eX7_isDigit_9 : decode cX7_isDigit 9 = .ok (.if_icmp .gt 7, 3) := by decide +kernel
theorem eX7_isDigit_12 : decode cX7_isDigit 12 = .ok (.iconst 1, 1) := by decide +kernel
theorem eX7_isDigit_13 : decode cX7_isDigit 13 = .ok (.goto 4, 3) := by decide +kernel
theorem eX7_isDigit_16 : decode cX7_isDigit 16 = .ok (.iconst 0, 1) := by decide +kernel
theorem eX7_isDigit_17 : decode cX7_isDigit 17 = .ok (.ireturn, 1) := by decide +kernel
def C_X7_isDigit (s : ST) (p : Int) (Q : ST → Int → Prop) : Prop := bx <| RA s → R32 p → q_met mX7_isDigit (qs layX s) [.int (Int32.ofInt p)] (PB layX Q)
theorem C_X7_isDigit.mono {s : ST} {p : Int} {Q Q' : ST → Int → Prop} (h : C_X7_isDigit s p Q) (hq : ∀ s v, Q s v → Q' s v) : C_X7_isDigit s p Q' := ⟨fun hA hrp => q_met.mono (h.1 hA hrp) (fun _ _ => PB.mono hq), trivial⟩
set_option maxRecDepth 20000 in
theorem s_X7_isDigit {s : ST} {p : Int} {Q : ST → Int → Prop} (h : RA s → R32 p → ((p < 48 → Q s 0) ∧ (¬ p < 48 → ((57 < p → Q s 0) ∧ (¬ 57 < p → Q s 1))))) : C_X7_isDigit s p Q := by
  refine ⟨?_, trivial⟩
  intro hA hrp
  have h := h hA hrp
  refine q_enter (by decide) (Nat.le_of_ble_eq_true rfl) ?_
  refine q_iload_n eX7_isDigit_0 rfl ?_
  refine q_bi (v := Int32.ofInt 48) eX7_isDigit_1 rfl ?_
  refine q_cz_lt (tgt := 16) (a := p) (b := 48) eX7_isDigit_3 (by decide) (ofz hrp) (ofz (r32l rfl)) (fun c3 => ?_) (fun c3 => ?_)
  · have h := h.1 c3
    refine q_ic (v := Int32.ofInt 0) eX7_isDigit_16 rfl ?_
    exact q_zret eX7_isDigit_17 rfl (z01 (Or.inl rfl)) ⟨_, _, rfl, hA, (Or.inl rfl), rfl, h⟩
  · have h := h.2 c3
    refine q_iload_n eX7_isDigit_6 rfl ?_
    refine q_bi (v := Int32.ofInt 57) eX7_isDigit_7 rfl ?_
    refine q_cz_gt (tgt := 16) (a := p) (b := 57) eX7_isDigit_9 (by decide) (ofz hrp) (ofz (r32l rfl)) (fun c9 => ?_) (fun c9 => ?_)
    · have h := h.1 c9
      refine q_ic (v := Int32.ofInt 0) eX7_isDigit_16 rfl ?_
      exact q_zret eX7_isDigit_17 rfl (z01 (Or.inl rfl)) ⟨_, _, rfl, hA, (Or.inl rfl), rfl, h⟩
    · have h := h.2 c9
      refine q_ic (v := Int32.ofInt 1) eX7_isDigit_12 rfl ?_
      refine q_goto (tgt := 17) eX7_isDigit_13 (by decide) ?_
      exact q_zret eX7_isDigit_17 rfl (z01 (Or.inr rfl)) ⟨_, _, rfl, hA, (Or.inr rfl), rfl, h⟩
def F_X7_isDigit (s : ST) (p : Int) : Int := (if p < 48 then 0 else (if 57 < p then 0 else 1))
theorem w_X7_isDigit {s : ST} {p : Int} : C_X7_isDigit s p (fun s' v => s' = s ∧ v = F_X7_isDigit s p) := by
  refine s_X7_isDigit (fun hA hrp => ?_)
  refine ⟨fun e0 => ?_, fun e0 => ?_⟩
  · exact ⟨rfl, by unfold F_X7_isDigit; rw [if_pos e0]⟩
  · refine ⟨fun e1 => ?_, fun e1 => ?_⟩
    · exact ⟨rfl, by unfold F_X7_isDigit; rw [if_neg e0, if_pos e1]⟩
    · exact ⟨rfl, by unfold F_X7_isDigit; rw [if_neg e0, if_neg e1]⟩
theorem p_X7_isDigit {s : ST} {p : Int} : RA s → R32 p → q_met mX7_isDigit (qs layX s) [.int (Int32.ofInt p)] (fun σ r => (F_X7_isDigit s p = 0 ∨ F_X7_isDigit s p = 1) ∧ σ = qs layX s ∧ r = some (.int (Int32.ofInt (F_X7_isDigit s p)))) := fun hA hrp => q_met.mono ((w_X7_isDigit).1 hA hrp) (by
  rintro _ _ ⟨s1, v1, rfl, h1, h2, rfl, rfl, rfl⟩
  exact ⟨h2, rfl, rfl⟩)
theorem n_X7_isDigit {s : ST} {p : Int} : ¬ F_X7_isDigit s p = 0 ↔ (¬ p < 48 ∧ ¬ 57 < p) := by
  unfold F_X7_isDigit
  first | omega | ((repeat' split) <;> simp_all) | ((repeat' split) <;> (simp_all <;> omega))
theorem eX7_readNumber_0 : decode cX7_readNumber 0 = .ok (.aload_n 0, 1) := by decide +kernel
theorem eX7_readNumber_1 : decode cX7_readNumber 1 = .ok (.iconst 0, 1) := by decide +kernel
theorem eX7_readNumber_2 : decode cX7_readNumber 2 = .ok (.putfield 165, 3) := by decide +kernel
theorem eX7_readNumber_5 : decode cX7_readNumber 5 = .ok (.iconst 0, 1) := by decide +kernel
theorem eX7_readNumber_6 : decode cX7_readNumber 6 = .ok (.istore_n 1, 1) := by decide +kernel
theorem eX7_readNumber_7 : decode cX7_readNumber 7 = .ok (.iload_n 1, 1) := by decide +kernel
theorem eX7_readNumber_8 : decode cX7_readNumber 8 = .ok (.sipush 1600, 3) := by decide +kernel
theorem eX7_readNumber_11 : decode cX7_readNumber 11 = .ok (.if_icmp .gt 56, 3) := by decide +kernel
theorem eX7_readNumber_14 : decode cX7_readNumber 14 = .ok (.aload_n 0, 1) := by decide +kernel
theorem eX7_readNumber_15 : decode cX7_readNumber 15 = .ok (.aload_n 0, 1) := by decide +kernel
theorem eX7_readNumber_16 : decode cX7_readNumber 16 = .ok (.getfield 63, 3) := by decide +kernel
theorem eX7_readNumber_19 : decode cX7_readNumber 19 = .ok (.invokevirtual 197, 3) := by decide +kernel
theorem eX7_readNumber_22 : decode cX7_readNumber 22 = .ok (.invokestatic 209, 3) := by decide +kernel
theorem eX7_readNumber_25 : decode cX7_readNumber 25 = .ok (.ifCond .eq 42, 3) := by decide +kernel
theorem eX7_readNumber_28 : decode cX7_readNumber 28 = .ok (.aload_n 0, 1) := by decide +kernel
theorem eX7_readNumber_29 : decode cX7_readNumber 29 = .ok (.bipush 10, 2) := by decide +kernel
theorem eX7_readNumber_31 : decode cX7_readNumber 31 = .ok (.aload_n 0, 1) := by decide +kernel
theorem eX7_readNumber_32 : decode cX7_readNumber 32 = .ok (.getfield 165, 3) := by decide +kernel
theorem eX7_readNumber_35 : decode cX7_readNumber 35 = .ok (.imul, 1) := by decide +kernel
theorem eX7_readNumber_36 : decode cX7_readNumber 36 = .ok (.aload_n 0, 1) := by decide +kernel
theorem eX7_readNumber_37 : decode cX7_readNumber 37 = .ok (.aload_n 0, 1) := by decide +kernel
theorem eX7_readNumber_38 : decode cX7_readNumber 38 = .ok (.getfield 63, 3) := by decide +kernel
theorem eX7_readNumber_41 : decode cX7_readNumber 41 = .ok (.invokevirtual 197, 3) := by decide +kernel
theorem eX7_readNumber_44 : decode cX7_readNumber 44 = .ok (.iadd, 1) := by decide +kernel
theorem eX7_readNumber_45 : decode cX7_readNumber 45 = .ok (.bipush 48, 2) := by decide +kernel
theorem eX7_readNumber_47 : decode cX7_readNumber 47 = .ok (.isub, 1) := by decide +kernel
theorem eX7_readNumber_48 : decode cX7_readNumber 48 = .ok (.putfield 165, 3) := by decide +kernel
theorem eX7_readNumber_51 : decode cX7_readNumber 51 = .ok (.aload_n 0, 1) := by decide +kernel
theorem eX7_readNumber_52 : decode cX7_readNumber 52 = .ok (.dup, 1) := by decide +kernel
theorem eX7_readNumber_53 : decode cX7_readNumber 53 = .ok (.getfield 63, 3) := by decide +kernel
theorem eX7_readNumber_56 : decode cX7_readNumber 56 = .ok (.iconst 1, 1) := by decide +kernel
theorem eX7_readNumber_57 : decode cX7_readNumber 57 = .ok (.iadd, 1) := by decide +kernel
theorem eX7_readNumber_58 : decode cX7_readNumber 58 = .ok (.putfield 63, 3) := by decide +kernel
theorem eX7_readNumber_61 : decode cX7_readNumber 61 = .ok (.iinc 1 1, 3) := by decide +kernel
theorem eX7_readNumber_64 : decode cX7_readNumber 64 = .ok (.goto (-57), 3) := by decide +kernel
theorem eX7_readNumber_67 : decode cX7_readNumber 67 = .ok (.aload_n 0, 1) := by decide +kernel
theorem eX7_readNumber_68 : decode cX7_readNumber 68 = .ok (.getfield 63, 3) := by decide +kernel
theorem eX7_readNumber_71 : decode cX7_readNumber 71 = .ok (.aload_n 0, 1) := by decide +kernel
theorem eX7_readNumber_72 : decode cX7_readNumber 72 = .ok (.getfield 81, 3) := by decide +kernel
theorem eX7_readNumber_75 : decode cX7_readNumber 75 = .ok (.isub, 1) := by decide +kernel
theorem eX7_readNumber_76 : decode cX7_readNumber 76 = .ok (.iconst 4, 1) := by decide +kernel
theorem eX7_readNumber_77 : decode cX7_readNumber 77 = .ok (.if_icmp .gt 21, 3) := by decide +kernel
theorem eX7_readNumber_80 : decode cX7_readNumber 80 = .ok (.aload_n 0, 1) := by decide +kernel
theorem eX7_readNumber_81 : decode cX7_readNumber 81 = .ok (.aload_n 0, 1) := by decide +kernel
theorem eX7_readNumber_82 : decode cX7_readNumber 82 = .ok (.getfield 63, 3) := by decide +kernel
theorem eX7_readNumber_85 : decode cX7_readNumber 85 = .ok (.invokevirtual 197, 3) := by decide +kernel
theorem eX7_readNumber_88 : decode cX7_readNumber 88 = .ok (.invokestatic 203, 3) := by decide +kernel
theorem eX7_readNumber_91 : decode cX7_readNumber 91 = .ok (.ifCond .ne 7, 3) := by decide +kernel
theorem eX7_readNumber_94 : decode cX7_readNumber 94 = .ok (.iconst 1, 1) := by decide +kernel
theorem eX7_readNumber_95 : decode cX7_readNumber 95 = .ok (.goto 4, 3) := by decide +kernel
theorem eX7_readNumber_98 : decode cX7_readNumber 98 = .ok (.iconst 0, 1) := by decide +kernel
theorem eX7_readNumber_99 : decode cX7_readNumber 99 = .ok (.istore_n 1, 1) := by decide +kernel
theorem eX7_readNumber_100 : decode cX7_readNumber 100 = .ok (.aload_n 0, 1) := by decide +kernel
theorem eX7_readNumber_101 : decode cX7_readNumber 101 = .ok (.iload_n 1, 1) := by decide +kernel
theorem eX7_readNumber_102 : decode cX7_readNumber 102 = .ok (.ifCond .eq 7, 3) := by decide +kernel
theorem eX7_readNumber_105 : decode cX7_readNumber 105 = .ok (.iconst 2, 1) := by decide +kernel
theorem eX7_readNumber_106 : decode cX7_readNumber 106 = .ok (.goto 4, 3) := by decide +kernel
theorem eX7_readNumber_109 : decode cX7_readNumber 109 = .ok (.iconst 4, 1) := by decide +kernel
theorem eX7_readNumber_110 : decode cX7_readNumber 110 = .ok (.putfield 69, 3) := by decide +kernel
theorem eX7_readNumber_113 : decode cX7_readNumber 113 = .ok (.return_, 1) := by decide +kernel
def C_X7_readNumber (s : ST) (Q : ST → Prop) : Prop := bx <| RA s → q_met mX7_readNumber (qs layX s) [.ref 46] (PV layX Q)
theorem C_X7_readNumber.mono {s : ST} {Q Q' : ST → Prop} (h : C_X7_readNumber s Q) (hq : ∀ s, Q s → Q' s) : C_X7_readNumber s Q' := ⟨fun hA => q_met.mono (h.1 hA) (fun _ _ => PV.mono hq), trivial⟩
def K_X7_readNumber_99 (s : ST) (t0 : Int) (Q : ST → Prop) : Prop := bx <| RA s → R32 t0 → q_K mX7_readNumber (qs layX s) 0 0 99 [(0, .ref 46)] [.int (Int32.ofInt t0)] (q_fin mX7_readNumber (PV layX Q))
def K_X7_readNumber_98 (s : ST) (Q : ST → Prop) : Prop := bx <| RA s → q_K mX7_readNumber (qs layX s) 0 0 98 [(0, .ref 46)] [] (q_fin mX7_readNumber (PV layX Q))
def K_X7_readNumber_67 (s : ST) (Q : ST → Prop) : Prop := bx <| RA s → q_K mX7_readNumber (qs layX s) 0 0 67 [(0, .ref 46)] [] (q_fin mX7_readNumber (PV layX Q))
def K_X7_readNumber_7 (s : ST) (a1 : Int) (Q : ST → Prop) : Prop := bx <| RA s → R32 a1 → q_K mX7_readNumber (qs layX s) 0 0 7 [(0, .ref 46), (1, .int (Int32.ofInt a1))] [] (q_fin mX7_readNumber (PV layX Q))
set_option maxRecDepth 20000 in
theorem s_X7_readNumber_99 {s : ST} {t0 : Int} {Q : ST → Prop} (h : RA s → R32 t0 → ((t0 = 0 → Q (ui s 46 5 4)) ∧ (¬ t0 = 0 → Q (ui s 46 5 2)))) : K_X7_readNumber_99 s t0 Q := by
  refine ⟨?_, trivial⟩
  intro hA hrt0
  have h := h hA hrt0
  refine q_istore_n eX7_readNumber_99 (Nat.le_of_ble_eq_true rfl) ?_
  refine q_aload_n eX7_readNumber_100 rfl ?_
  refine q_iload_n eX7_readNumber_101 rfl ?_
  refine q_iz_eq (tgt := 109) (a := t0) eX7_readNumber_102 (by decide) (ofz hrt0) (fun c102 => ?_) (fun c102 => ?_)
  · have h := h.1 c102
    refine q_ic (v := Int32.ofInt 4) eX7_readNumber_109 rfl ?_
    refine z_putI (c := 7) (n := 0) (k := 5) (kz := 5) eX7_readNumber_110 rfl (by decide) (by decide) fX7_69 rfl rfl rfl ?_
    exact q_ret eX7_readNumber_113 rfl ⟨_, rfl, (ra_ui hA (r32l rfl)), rfl, h⟩
  · have h := h.2 c102
    refine q_ic (v := Int32.ofInt 2) eX7_readNumber_105 rfl ?_
    refine q_goto (tgt := 110) eX7_readNumber_106 (by decide) ?_
    refine z_putI (c := 7) (n := 0) (k := 5) (kz := 5) eX7_readNumber_110 rfl (by decide) (by decide) fX7_69 rfl rfl rfl ?_
    exact q_ret eX7_readNumber_113 rfl ⟨_, rfl, (ra_ui hA (r32l rfl)), rfl, h⟩
set_option maxRecDepth 20000 in
theorem s_X7_readNumber_98 {s : ST} {Q : ST → Prop} (h : RA s → K_X7_readNumber_99 s 0 Q) : K_X7_readNumber_98 s Q := by
  refine ⟨?_, trivial⟩
  intro hA
  have h := h hA
  refine q_ic (v := Int32.ofInt 0) eX7_readNumber_98 rfl ?_
  exact q_subL rfl (h.1 hA (r32l rfl))
set_option maxRecDepth 20000 in
theorem s_X7_readNumber_67 {s : ST} {Q : ST → Prop} (h : RA s → (R32 (s.1 46 4 - s.1 46 6) ∧ ((4 < (s.1 46 4 - s.1 46 6) → K_X7_readNumber_98 s Q) ∧ (¬ 4 < (s.1 46 4 - s.1 46 6) → (P_X7_signAt s (s.1 46 4) ∧ (((¬ (F_X7_signAt s (s.1 46 4)) < 97 ∧ ¬ 122 < (F_X7_signAt s (s.1 46 4))) → K_X7_readNumber_98 s Q) ∧ (¬ (¬ (F_X7_signAt s (s.1 46 4)) < 97 ∧ ¬ 122 < (F_X7_signAt s (s.1 46 4))) → K_X7_readNumber_99 s 1 Q))))))) : K_X7_readNumber_67 s Q := by
  refine ⟨?_, trivial⟩
  intro hA
  have h := h hA
  refine q_aload_n eX7_readNumber_67 rfl ?_
  refine q_getf (c := 7) (n := 0) (k := 4) (v := .int (Int32.ofInt (s.1 46 4))) eX7_readNumber_68 rfl (by decide) (by decide) fX7_63 rfl ?_
  refine q_aload_n eX7_readNumber_71 rfl ?_
  refine q_getf (c := 7) (n := 0) (k := 6) (v := .int (Int32.ofInt (s.1 46 6))) eX7_readNumber_72 rfl (by decide) (by decide) fX7_81 rfl ?_
  refine z_isub eX7_readNumber_75 ?_
  have r1 := h.1
  have h := h.2
  refine q_ic (v := Int32.ofInt 4) eX7_readNumber_76 rfl ?_
  refine q_cz_gt (tgt := 98) (a := (s.1 46 4 - s.1 46 6)) (b := 4) eX7_readNumber_77 (by decide) (ofz r1) (ofz (r32l rfl)) (fun c77 => ?_) (fun c77 => ?_)
  · have h := h.1 c77
    exact q_subL rfl (h.1 hA)
  · have h := h.2 c77
    refine q_aload_n eX7_readNumber_80 rfl ?_
    refine q_aload_n eX7_readNumber_81 rfl ?_
    refine q_getf (c := 7) (n := 0) (k := 4) (v := .int (Int32.ofInt (s.1 46 4))) eX7_readNumber_82 rfl (by decide) (by decide) fX7_63 rfl ?_
    have f3 := h.1
    have h := h.2
    refine q_V1 (ci := 7) (n := 0) eX7_readNumber_85 DX7_signAt lX7_197 rfl (by decide) rfl rfl rfl rfl (p_X7_signAt f3 hA (hA _ _)) ?_
    rintro _ _ ⟨r2, rfl, rfl⟩
    refine q_S1 eX7_readNumber_88 DX7_isLetter lX7_203 rfl rfl rfl (p_X7_isLetter hA r2) ?_
    rintro _ _ ⟨b4, rfl, rfl⟩
    refine q_iz_ne (tgt := 98) (a := (F_X7_isLetter s (F_X7_signAt s (s.1 46 4)))) eX7_readNumber_91 (by decide) (ofz (r01 b4)) (fun c91 => ?_) (fun c91 => ?_)
    · have h := h.1 (n_X7_isLetter.mp c91)
      exact q_subL rfl (h.1 hA)
    · have h := h.2 (fun q => n_X7_isLetter.mpr q c91)
      refine q_ic (v := Int32.ofInt 1) eX7_readNumber_94 rfl ?_
      refine q_goto (tgt := 99) eX7_readNumber_95 (by decide) ?_
      exact q_subL rfl (h.1 hA (r32l rfl))
set_option maxRecDepth 20000 in
theorem s_X7_readNumber_7 {s : ST} {a1 : Int} {Q : ST → Prop} (h : RA s → R32 a1 → ((1600 < a1 → K_X7_readNumber_67 s Q) ∧ (¬ 1600 < a1 → (P_X7_signAt s (s.1 46 4) ∧ ((¬ (¬ (F_X7_signAt s (s.1 46 4)) < 48 ∧ ¬ 57 < (F_X7_signAt s (s.1 46 4))) → K_X7_readNumber_67 s Q) ∧ ((¬ (F_X7_signAt s (s.1 46 4)) < 48 ∧ ¬ 57 < (F_X7_signAt s (s.1 46 4))) → (R32 (s.1 46 4 + 1) ∧ (R32 (a1 + 1) ∧ K_X7_readNumber_7 (ui (ui s 46 8 (w32 ((w32 ((w32 (10 * s.1 46 8)) + (F_X7_signAt s (s.1 46 4)))) - 48))) 46 4 (s.1 46 4 + 1)) (a1 + 1) Q)))))))) : K_X7_readNumber_7 s a1 Q := by
  refine ⟨?_, trivial⟩
  intro hA hra1
  have h := h hA hra1
  refine q_iload_n eX7_readNumber_7 rfl ?_
  refine q_si (v := Int32.ofInt 1600) eX7_readNumber_8 rfl ?_
  refine q_cz_gt (tgt := 67) (a := a1) (b := 1600) eX7_readNumber_11 (by decide) (ofz hra1) (ofz (r32l rfl)) (fun c11 => ?_) (fun c11 => ?_)
  · have h := h.1 c11
    exact q_subL rfl (h.1 hA)
  · have h := h.2 c11
    refine q_aload_n eX7_readNumber_14 rfl ?_
    refine q_aload_n eX7_readNumber_15 rfl ?_
    refine q_getf (c := 7) (n := 0) (k := 4) (v := .int (Int32.ofInt (s.1 46 4))) eX7_readNumber_16 rfl (by decide) (by decide) fX7_63 rfl ?_
    have f2 := h.1
    have h := h.2
    refine q_V1 (ci := 7) (n := 0) eX7_readNumber_19 DX7_signAt lX7_197 rfl (by decide) rfl rfl rfl rfl (p_X7_signAt f2 hA (hA _ _)) ?_
    rintro _ _ ⟨r1, rfl, rfl⟩
    refine q_S1 eX7_readNumber_22 DX7_isDigit lX7_209 rfl rfl rfl (p_X7_isDigit hA r1) ?_
    rintro _ _ ⟨b3, rfl, rfl⟩
    refine q_iz_eq (tgt := 67) (a := (F_X7_isDigit s (F_X7_signAt s (s.1 46 4)))) eX7_readNumber_25 (by decide) (ofz (r01 b3)) (fun c25 => ?_) (fun c25 => ?_)
    · have h := h.1 (fun q => n_X7_isDigit.mpr q c25)
      exact q_subL rfl (h.1 hA)
    · have h := h.2 (n_X7_isDigit.mp c25)
      refine q_aload_n eX7_readNumber_28 rfl ?_
      refine q_bi (v := Int32.ofInt 10) eX7_readNumber_29 rfl ?_
      refine q_aload_n eX7_readNumber_31 rfl ?_
      refine q_getf (c := 7) (n := 0) (k := 8) (v := .int (Int32.ofInt (s.1 46 8))) eX7_readNumber_32 rfl (by decide) (by decide) fX7_165 rfl ?_
      refine z_imul eX7_readNumber_35 ?_
      refine q_topI (v := Int32.ofInt (w32 (10 * s.1 46 8))) (w32_of _).symm ?_
      refine q_aload_n eX7_readNumber_36 rfl ?_
      refine q_aload_n eX7_readNumber_37 rfl ?_
      refine q_getf (c := 7) (n := 0) (k := 4) (v := .int (Int32.ofInt (s.1 46 4))) eX7_readNumber_38 rfl (by decide) (by decide) fX7_63 rfl ?_
      refine q_V1 (ci := 7) (n := 0) eX7_readNumber_41 DX7_signAt lX7_197 rfl (by decide) rfl rfl rfl rfl (p_X7_signAt f2 hA (hA _ _)) ?_
      rintro _ _ ⟨r4, rfl, rfl⟩
      refine z_iadd eX7_readNumber_44 ?_
      refine q_topI (v := Int32.ofInt (w32 ((w32 (10 * s.1 46 8)) + (F_X7_signAt s (s.1 46 4))))) (w32_of _).symm ?_
      refine q_bi (v := Int32.ofInt 48) eX7_readNumber_45 rfl ?_
      refine z_isub eX7_readNumber_47 ?_
      refine q_topI (v := Int32.ofInt (w32 ((w32 ((w32 (10 * s.1 46 8)) + (F_X7_signAt s (s.1 46 4)))) - 48))) (w32_of _).symm ?_
      refine z_putI (c := 7) (n := 0) (k := 8) (kz := 8) eX7_readNumber_48 rfl (by decide) (by decide) fX7_165 rfl rfl rfl ?_
      refine q_aload_n eX7_readNumber_51 rfl ?_
      refine q_dup eX7_readNumber_52 rfl ?_
      refine q_getf (c := 7) (n := 0) (k := 4) (v := .int (Int32.ofInt (s.1 46 4))) eX7_readNumber_53 rfl (by decide) (by decide) fX7_63 rfl ?_
      refine q_ic (v := Int32.ofInt 1) eX7_readNumber_56 rfl ?_
      refine z_iadd eX7_readNumber_57 ?_
      have r5 := h.1
      have h := h.2
      refine z_putI (c := 7) (n := 0) (k := 4) (kz := 4) eX7_readNumber_58 rfl (by decide) (by decide) fX7_63 rfl rfl rfl ?_
      have r6 := h.1
      have h := h.2
      refine z_inc (m := 1) eX7_readNumber_61 rfl (Nat.le_of_ble_eq_true rfl) rfl ?_
      refine q_goto (tgt := 7) eX7_readNumber_64 (by decide) ?_
      exact q_subL rfl (h.1 (ra_ui (ra_ui hA (w32_r _)) r5) r6)
set_option maxRecDepth 20000 in
theorem s_X7_readNumber {s : ST} {Q : ST → Prop} (h : RA s → K_X7_readNumber_7 (ui s 46 8 0) 0 Q) : C_X7_readNumber s Q := by
  refine ⟨?_, trivial⟩
  intro hA
  have h := h hA
  refine q_enter (by decide) (Nat.le_of_ble_eq_true rfl) ?_
  refine q_aload_n eX7_readNumber_0 rfl ?_
  refine q_ic (v := Int32.ofInt 0) eX7_readNumber_1 rfl ?_
  refine z_putI (c := 7) (n := 0) (k := 8) (kz := 8) eX7_readNumber_2 rfl (by decide) (by decide) fX7_165 rfl rfl rfl ?_
  refine q_ic (v := Int32.ofInt 0) eX7_readNumber_5 rfl ?_
  refine q_istore_n eX7_readNumber_6 (Nat.le_of_ble_eq_true rfl) ?_
  exact q_subL rfl (h.1 (ra_ui hA (r32l rfl)) (r32l rfl))
theorem eX7_readToken_0 : decode cX7_readToken 0 = .ok (.iconst 0, 1) := by decide +kernel
theorem eX7_readToken_1 : decode cX7_readToken 1 = .ok (.istore_n 1, 1) := by decide +kernel
theorem eX7_readToken_2 : decode cX7_readToken 2 = .ok (.iload_n 1, 1) := by decide +kernel
theorem eX7_readToken_3 : decode cX7_readToken 3 = .ok (.sipush 1600, 3) := by decide +kernel
theorem eX7_readToken_6 : decode cX7_readToken 6 = .ok (.if_icmp .gt 33, 3) := by decide +kernel
theorem eX7_readToken_9 : decode cX7_readToken 9 = .ok (.aload_n 0, 1) := by decide +kernel
theorem eX7_readToken_10 : decode cX7_readToken 10 = .ok (.aload_n 0, 1) := by decide +kernel
theorem eX7_readToken_11 : decode cX7_readToken 11 = .ok (.getfield 63, 3) := by decide +kernel
theorem eX7_readToken_14 : decode cX7_readToken 14 = .ok (.invokevirtual 197, 3) := by decide +kernel
theorem eX7_readToken_17 : decode cX7_readToken 17 = .ok (.invokestatic 200, 3) := by decide +kernel
theorem eX7_readToken_20 : decode cX7_readToken 20 = .ok (.ifCond .eq 19, 3) := by decide +kernel
theorem eX7_readToken_23 : decode cX7_readToken 23 = .ok (.aload_n 0, 1) := by decide +kernel
theorem eX7_readToken_24 : decode cX7_readToken 24 = .ok (.dup, 1) := by decide +kernel
theorem eX7_readToken_25 : decode cX7_readToken 25 = .ok (.getfield 63, 3) := by decide +kernel
theorem eX7_readToken_28 : decode cX7_readToken 28 = .ok (.iconst 1, 1) := by decide +kernel
theorem eX7_readToken_29 : decode cX7_readToken 29 = .ok (.iadd, 1) := by decide +kernel
theorem eX7_readToken_30 : decode cX7_readToken 30 = .ok (.putfield 63, 3) := by decide +kernel
theorem eX7_readToken_33 : decode cX7_readToken 33 = .ok (.iinc 1 1, 3) := by decide +kernel
theorem eX7_readToken_36 : decode cX7_readToken 36 = .ok (.goto (-34), 3) := by decide +kernel
theorem eX7_readToken_39 : decode cX7_readToken 39 = .ok (.aload_n 0, 1) := by decide +kernel
theorem eX7_readToken_40 : decode cX7_readToken 40 = .ok (.aload_n 0, 1) := by decide +kernel
theorem eX7_readToken_41 : decode cX7_readToken 41 = .ok (.getfield 63, 3) := by decide +kernel
theorem eX7_readToken_44 : decode cX7_readToken 44 = .ok (.putfield 81, 3) := by decide +kernel
theorem eX7_readToken_47 : decode cX7_readToken 47 = .ok (.aload_n 0, 1) := by decide +kernel
theorem eX7_readToken_48 : decode cX7_readToken 48 = .ok (.iconst (-1), 1) := by decide +kernel
theorem eX7_readToken_49 : decode cX7_readToken 49 = .ok (.putfield 88, 3) := by decide +kernel
theorem eX7_readToken_52 : decode cX7_readToken 52 = .ok (.aload_n 0, 1) := by decide +kernel
theorem eX7_readToken_53 : decode cX7_readToken 53 = .ok (.aload_n 0, 1) := by decide +kernel
theorem eX7_readToken_54 : decode cX7_readToken 54 = .ok (.getfield 63, 3) := by decide +kernel
theorem eX7_readToken_57 : decode cX7_readToken 57 = .ok (.invokevirtual 197, 3) := by decide +kernel
theorem eX7_readToken_60 : decode cX7_readToken 60 = .ok (.istore_n 1, 1) := by decide +kernel
theorem eX7_readToken_61 : decode cX7_readToken 61 = .ok (.iload_n 1, 1) := by decide +kernel
theorem eX7_readToken_62 : decode cX7_readToken 62 = .ok (.iconst (-1), 1) := by decide +kernel
theorem eX7_readToken_63 : decode cX7_readToken 63 = .ok (.if_icmp .ne 11, 3) := by decide +kernel
theorem eX7_readToken_66 : decode cX7_readToken 66 = .ok (.aload_n 0, 1) := by decide +kernel
theorem eX7_readToken_67 : decode cX7_readToken 67 = .ok (.iconst 0, 1) := by decide +kernel
theorem eX7_readToken_68 : decode cX7_readToken 68 = .ok (.putfield 69, 3) := by decide +kernel
theorem eX7_readToken_71 : decode cX7_readToken 71 = .ok (.goto 56, 3) := by decide +kernel
theorem eX7_readToken_74 : decode cX7_readToken 74 = .ok (.iload_n 1, 1) := by decide +kernel
theorem eX7_readToken_75 : decode cX7_readToken 75 = .ok (.invokestatic 203, 3) := by decide +kernel
theorem eX7_readToken_78 : decode cX7_readToken 78 = .ok (.ifCond .eq 10, 3) := by decide +kernel
theorem eX7_readToken_81 : decode cX7_readToken 81 = .ok (.aload_n 0, 1) := by decide +kernel
theorem eX7_readToken_82 : decode cX7_readToken 82 = .ok (.invokevirtual 206, 3) := by decide +kernel
theorem eX7_readToken_85 : decode cX7_readToken 85 = .ok (.goto 42, 3) := by decide +kernel
theorem eX7_readToken_88 : decode cX7_readToken 88 = .ok (.iload_n 1, 1) := by decide +kernel
theorem eX7_readToken_89 : decode cX7_readToken 89 = .ok (.invokestatic 209, 3) := by decide +kernel
theorem eX7_readToken_92 : decode cX7_readToken 92 = .ok (.ifCond .eq 10, 3) := by decide +kernel
theorem eX7_readToken_95 : decode cX7_readToken 95 = .ok (.aload_n 0, 1) := by decide +kernel
theorem eX7_readToken_96 : decode cX7_readToken 96 = .ok (.invokevirtual 212, 3) := by decide +kernel
theorem eX7_readToken_99 : decode cX7_readToken 99 = .ok (.goto 28, 3) := by decide +kernel
theorem eX7_readToken_102 : decode cX7_readToken 102 = .ok (.aload_n 0, 1) := by decide +kernel
theorem eX7_readToken_103 : decode cX7_readToken 103 = .ok (.iload_n 1, 1) := by decide +kernel
theorem eX7_readToken_104 : decode cX7_readToken 104 = .ok (.bipush 59, 2) := by decide +kernel
theorem eX7_readToken_106 : decode cX7_readToken 106 = .ok (.if_icmp .ne 7, 3) := by decide +kernel
theorem eX7_readToken_109 : decode cX7_readToken 109 = .ok (.iconst 3, 1) := by decide +kernel
theorem eX7_readToken_110 : decode cX7_readToken 110 = .ok (.goto 4, 3) := by decide +kernel
theorem eX7_readToken_113 : decode cX7_readToken 113 = .ok (.iconst 4, 1) := by decide +kernel
theorem eX7_readToken_114 : decode cX7_readToken 114 = .ok (.putfield 69, 3) := by decide +kernel
theorem eX7_readToken_117 : decode cX7_readToken 117 = .ok (.aload_n 0, 1) := by decide +kernel
theorem eX7_readToken_118 : decode cX7_readToken 118 = .ok (.dup, 1) := by decide +kernel
theorem eX7_readToken_119 : decode cX7_readToken 119 = .ok (.getfield 63, 3) := by decide +kernel
theorem eX7_readToken_122 : decode cX7_readToken 122 = .ok (.iconst 1, 1) := by decide +kernel
theorem eX7_readToken_123 : decode cX7_readToken 123 = .ok (.iadd, 1) := by decide +kernel
theorem eX7_readToken_124 : decode cX7_readToken 124 = .ok (.putfield 63, 3) := by decide +kernel
theorem eX7_readToken_127 : decode cX7_readToken 127 = .ok (.return_, 1) := by decide +kernel
def C_X7_readToken (s : ST) (Q : ST → Prop) : Prop := bx <| RA s → q_met mX7_readToken (qs layX s) [.ref 46] (PV layX Q)
theorem C_X7_readToken.mono {s : ST} {Q Q' : ST → Prop} (h : C_X7_readToken s Q) (hq : ∀ s, Q s → Q' s) : C_X7_readToken s Q' := ⟨fun hA => q_met.mono (h.1 hA) (fun _ _ => PV.mono hq), trivial⟩
def K_X7_readToken_39 (s : ST) (Q : ST → Prop) : Prop := bx <| RA s → q_K mX7_readToken (qs layX s) 0 0 39 [(0, .ref 46)] [] (q_fin mX7_readToken (PV layX Q))
def K_X7_readToken_2 (s : ST) (a1 : Int) (Q : ST → Prop) : Prop := bx <| RA s → R32 a1 → q_K mX7_readToken (qs layX s) 0 0 2 [(0, .ref 46), (1, .int (Int32.ofInt a1))] [] (q_fin mX7_readToken (PV layX Q))
set_option maxRecDepth 20000 in
theorem s_X7_readToken_39 {s : ST} {Q : ST → Prop} (h : RA s → (P_X7_signAt (ui (ui s 46 6 (s.1 46 4)) 46 9 (-1)) (s.1 46 4) ∧ ((¬ (F_X7_signAt (ui (ui s 46 6 (s.1 46 4)) 46 9 (-1)) (s.1 46 4)) = (-1) → ((¬ (¬ (F_X7_signAt (ui (ui s 46 6 (s.1 46 4)) 46 9 (-1)) (s.1 46 4)) < 97 ∧ ¬ 122 < (F_X7_signAt (ui (ui s 46 6 (s.1 46 4)) 46 9 (-1)) (s.1 46 4))) → ((¬ (¬ (F_X7_signAt (ui (ui s 46 6 (s.1 46 4)) 46 9 (-1)) (s.1 46 4)) < 48 ∧ ¬ 57 < (F_X7_signAt (ui (ui s 46 6 (s.1 46 4)) 46 9 (-1)) (s.1 46 4))) → ((¬ (F_X7_signAt (ui (ui s 46 6 (s.1 46 4)) 46 9 (-1)) (s.1 46 4)) = 59 → (R32 (s.1 46 4 + 1) ∧ Q (ui (ui (ui (ui s 46 6 (s.1 46 4)) 46 9 (-1)) 46 5 4) 46 4 (s.1 46 4 + 1)))) ∧ ((F_X7_signAt (ui (ui s 46 6 (s.1 46 4)) 46 9 (-1)) (s.1 46 4)) = 59 → (R32 (s.1 46 4 + 1) ∧ Q (ui (ui (ui (ui s 46 6 (s.1 46 4)) 46 9 (-1)) 46 5 3) 46 4 (s.1 46 4 + 1)))))) ∧ ((¬ (F_X7_signAt (ui (ui s 46 6 (s.1 46 4)) 46 9 (-1)) (s.1 46 4)) < 48 ∧ ¬ 57 < (F_X7_signAt (ui (ui s 46 6 (s.1 46 4)) 46 9 (-1)) (s.1 46 4))) → (C_X7_readNumber (ui (ui s 46 6 (s.1 46 4)) 46 9 (-1)) (fun s7 => Q s7))))) ∧ ((¬ (F_X7_signAt (ui (ui s 46 6 (s.1 46 4)) 46 9 (-1)) (s.1 46 4)) < 97 ∧ ¬ 122 < (F_X7_signAt (ui (ui s 46 6 (s.1 46 4)) 46 9 (-1)) (s.1 46 4))) → (C_X7_readWord (ui (ui s 46 6 (s.1 46 4)) 46 9 (-1)) (fun s8 => Q s8))))) ∧ ((F_X7_signAt (ui (ui s 46 6 (s.1 46 4)) 46 9 (-1)) (s.1 46 4)) = (-1) → Q (ui (ui (ui s 46 6 (s.1 46 4)) 46 9 (-1)) 46 5 0))))) : K_X7_readToken_39 s Q := by
  refine ⟨?_, trivial⟩
  intro hA
  have h := h hA
  refine q_aload_n eX7_readToken_39 rfl ?_
  refine q_aload_n eX7_readToken_40 rfl ?_
  refine q_getf (c := 7) (n := 0) (k := 4) (v := .int (Int32.ofInt (s.1 46 4))) eX7_readToken_41 rfl (by decide) (by decide) fX7_63 rfl ?_
  refine z_putI (c := 7) (n := 0) (k := 6) (kz := 6) eX7_readToken_44 rfl (by decide) (by decide) fX7_81 rfl rfl rfl ?_
  refine q_aload_n eX7_readToken_47 rfl ?_
  refine q_ic (v := Int32.ofInt (-1)) eX7_readToken_48 rfl ?_
  refine z_putI (c := 7) (n := 0) (k := 9) (kz := 9) eX7_readToken_49 rfl (by decide) (by decide) fX7_88 rfl rfl rfl ?_
  refine q_aload_n eX7_readToken_52 rfl ?_
  refine q_aload_n eX7_readToken_53 rfl ?_
  refine q_getf (c := 7) (n := 0) (k := 4) (v := .int (Int32.ofInt (s.1 46 4))) eX7_readToken_54 rfl (by decide) (by decide) fX7_63 rfl ?_
  have f2 := h.1
  have h := h.2
  refine q_V1 (ci := 7) (n := 0) eX7_readToken_57 DX7_signAt lX7_197 rfl (by decide) rfl rfl rfl rfl (p_X7_signAt f2 (ra_ui (ra_ui hA (hA _ _)) (r32l rfl)) (hA _ _)) ?_
  rintro _ _ ⟨r1, rfl, rfl⟩
  refine q_istore_n eX7_readToken_60 (Nat.le_of_ble_eq_true rfl) ?_
  refine q_iload_n eX7_readToken_61 rfl ?_
  refine q_ic (v := Int32.ofInt (-1)) eX7_readToken_62 rfl ?_
  refine q_cz_ne (tgt := 74) (a := (F_X7_signAt (ui (ui s 46 6 (s.1 46 4)) 46 9 (-1)) (s.1 46 4))) (b := (-1)) eX7_readToken_63 (by decide) (ofz r1) (ofz (r32l rfl)) (fun c63 => ?_) (fun c63 => ?_)
  · have h := h.1 c63
    refine q_iload_n eX7_readToken_74 rfl ?_
    refine q_S1 eX7_readToken_75 DX7_isLetter lX7_203 rfl rfl rfl (p_X7_isLetter (ra_ui (ra_ui hA (hA _ _)) (r32l rfl)) r1) ?_
    rintro _ _ ⟨b3, rfl, rfl⟩
    refine q_iz_eq (tgt := 88) (a := (F_X7_isLetter (ui (ui s 46 6 (s.1 46 4)) 46 9 (-1)) (F_X7_signAt (ui (ui s 46 6 (s.1 46 4)) 46 9 (-1)) (s.1 46 4)))) eX7_readToken_78 (by decide) (ofz (r01 b3)) (fun c78 => ?_) (fun c78 => ?_)
    · have h := h.1 (fun q => n_X7_isLetter.mpr q c78)
      refine q_iload_n eX7_readToken_88 rfl ?_
      refine q_S1 eX7_readToken_89 DX7_isDigit lX7_209 rfl rfl rfl (p_X7_isDigit (ra_ui (ra_ui hA (hA _ _)) (r32l rfl)) r1) ?_
      rintro _ _ ⟨b4, rfl, rfl⟩
      refine q_iz_eq (tgt := 102) (a := (F_X7_isDigit (ui (ui s 46 6 (s.1 46 4)) 46 9 (-1)) (F_X7_signAt (ui (ui s 46 6 (s.1 46 4)) 46 9 (-1)) (s.1 46 4)))) eX7_readToken_92 (by decide) (ofz (r01 b4)) (fun c92 => ?_) (fun c92 => ?_)
      · have h := h.1 (fun q => n_X7_isDigit.mpr q c92)
        refine q_aload_n eX7_readToken_102 rfl ?_
        refine q_iload_n eX7_readToken_103 rfl ?_
        refine q_bi (v := Int32.ofInt 59) eX7_readToken_104 rfl ?_
        refine q_cz_ne (tgt := 113) (a := (F_X7_signAt (ui (ui s 46 6 (s.1 46 4)) 46 9 (-1)) (s.1 46 4))) (b := 59) eX7_readToken_106 (by decide) (ofz r1) (ofz (r32l rfl)) (fun c106 => ?_) (fun c106 => ?_)
        · have h := h.1 c106
          refine q_ic (v := Int32.ofInt 4) eX7_readToken_113 rfl ?_
          refine z_putI (c := 7) (n := 0) (k := 5) (kz := 5) eX7_readToken_114 rfl (by decide) (by decide) fX7_69 rfl rfl rfl ?_
          refine q_aload_n eX7_readToken_117 rfl ?_
          refine q_dup eX7_readToken_118 rfl ?_
          refine q_getf (c := 7) (n := 0) (k := 4) (v := .int (Int32.ofInt (s.1 46 4))) eX7_readToken_119 rfl (by decide) (by decide) fX7_63 rfl ?_
          refine q_ic (v := Int32.ofInt 1) eX7_readToken_122 rfl ?_
          refine z_iadd eX7_readToken_123 ?_
          have r5 := h.1
          have h := h.2
          refine z_putI (c := 7) (n := 0) (k := 4) (kz := 4) eX7_readToken_124 rfl (by decide) (by decide) fX7_63 rfl rfl rfl ?_
          exact q_ret eX7_readToken_127 rfl ⟨_, rfl, (ra_ui (ra_ui (ra_ui (ra_ui hA (hA _ _)) (r32l rfl)) (r32l rfl)) r5), rfl, h⟩
        · have h := h.2 c106
          refine q_ic (v := Int32.ofInt 3) eX7_readToken_109 rfl ?_
          refine q_goto (tgt := 114) eX7_readToken_110 (by decide) ?_
          refine z_putI (c := 7) (n := 0) (k := 5) (kz := 5) eX7_readToken_114 rfl (by decide) (by decide) fX7_69 rfl rfl rfl ?_
          refine q_aload_n eX7_readToken_117 rfl ?_
          refine q_dup eX7_readToken_118 rfl ?_
          refine q_getf (c := 7) (n := 0) (k := 4) (v := .int (Int32.ofInt (s.1 46 4))) eX7_readToken_119 rfl (by decide) (by decide) fX7_63 rfl ?_
          refine q_ic (v := Int32.ofInt 1) eX7_readToken_122 rfl ?_
          refine z_iadd eX7_readToken_123 ?_
          have r6 := h.1
          have h := h.2
          refine z_putI (c := 7) (n := 0) (k := 4) (kz := 4) eX7_readToken_124 rfl (by decide) (by decide) fX7_63 rfl rfl rfl ?_
          exact q_ret eX7_readToken_127 rfl ⟨_, rfl, (ra_ui (ra_ui (ra_ui (ra_ui hA (hA _ _)) (r32l rfl)) (r32l rfl)) r6), rfl, h⟩
      · have h := h.2 (n_X7_isDigit.mp c92)
        refine q_aload_n eX7_readToken_95 rfl ?_
        refine q_V0 (ci := 7) (n := 0) eX7_readToken_96 DX7_readNumber lX7_212 rfl (by decide) rfl rfl rfl rfl (h.1 (ra_ui (ra_ui hA (hA _ _)) (r32l rfl))) ?_
        rintro _ _ ⟨s7, rfl, hA7, rfl, h⟩
        refine q_goto (tgt := 127) eX7_readToken_99 (by decide) ?_
        exact q_ret eX7_readToken_127 rfl ⟨_, rfl, hA7, rfl, h⟩
    · have h := h.2 (n_X7_isLetter.mp c78)
      refine q_aload_n eX7_readToken_81 rfl ?_
      refine q_V0 (ci := 7) (n := 0) eX7_readToken_82 DX7_readWord lX7_206 rfl (by decide) rfl rfl rfl rfl (h.1 (ra_ui (ra_ui hA (hA _ _)) (r32l rfl))) ?_
      rintro _ _ ⟨s8, rfl, hA8, rfl, h⟩
      refine q_goto (tgt := 127) eX7_readToken_85 (by decide) ?_
      exact q_ret eX7_readToken_127 rfl ⟨_, rfl, hA8, rfl, h⟩
  · have h := h.2 c63
    refine q_aload_n eX7_readToken_66 rfl ?_
    refine q_ic (v := Int32.ofInt 0) eX7_readToken_67 rfl ?_
    refine z_putI (c := 7) (n := 0) (k := 5) (kz := 5) eX7_readToken_68 rfl (by decide) (by decide) fX7_69 rfl rfl rfl ?_
    refine q_goto (tgt := 127) eX7_readToken_71 (by decide) ?_
    exact q_ret eX7_readToken_127 rfl ⟨_, rfl, (ra_ui (ra_ui (ra_ui hA (hA _ _)) (r32l rfl)) (r32l rfl)), rfl, h⟩
set_option maxRecDepth 20000 in
theorem s_X7_readToken_2 {s : ST} {a1 : Int} {Q : ST → Prop} (h : RA s → R32 a1 → ((1600 < a1 → K_X7_readToken_39 s Q) ∧ (¬ 1600 < a1 → (P_X7_signAt s (s.1 46 4) ∧ ((¬ ((F_X7_signAt s (s.1 46 4)) = 32 ∨ (F_X7_signAt s (s.1 46 4)) = 10) → K_X7_readToken_39 s Q) ∧ (((F_X7_signAt s (s.1 46 4)) = 32 ∨ (F_X7_signAt s (s.1 46 4)) = 10) → (R32 (s.1 46 4 + 1) ∧ (R32 (a1 + 1) ∧ K_X7_readToken_2 (ui s 46 4 (s.1 46 4 + 1)) (a1 + 1) Q)))))))) : K_X7_readToken_2 s a1 Q := by
  refine ⟨?_, trivial⟩
  intro hA hra1
  have h := h hA hra1
  refine q_iload_n eX7_readToken_2 rfl ?_
  refine q_si (v := Int32.ofInt 1600) eX7_readToken_3 rfl ?_
  refine q_cz_gt (tgt := 39) (a := a1) (b := 1600) eX7_readToken_6 (by decide) (ofz hra1) (ofz (r32l rfl)) (fun c6 => ?_) (fun c6 => ?_)
  · have h := h.1 c6
    exact q_subL rfl (h.1 hA)
  · have h := h.2 c6
    refine q_aload_n eX7_readToken_9 rfl ?_
    refine q_aload_n eX7_readToken_10 rfl ?_
    refine q_getf (c := 7) (n := 0) (k := 4) (v := .int (Int32.ofInt (s.1 46 4))) eX7_readToken_11 rfl (by decide) (by decide) fX7_63 rfl ?_
    have f2 := h.1
    have h := h.2
    refine q_V1 (ci := 7) (n := 0) eX7_readToken_14 DX7_signAt lX7_197 rfl (by decide) rfl rfl rfl rfl (p_X7_signAt f2 hA (hA _ _)) ?_
    rintro _ _ ⟨r1, rfl, rfl⟩
    refine q_S1 eX7_readToken_17 DX7_isBlank lX7_200 rfl rfl rfl (p_X7_isBlank hA r1) ?_
    rintro _ _ ⟨b3, rfl, rfl⟩
    refine q_iz_eq (tgt := 39) (a := (F_X7_isBlank s (F_X7_signAt s (s.1 46 4)))) eX7_readToken_20 (by decide) (ofz (r01 b3)) (fun c20 => ?_) (fun c20 => ?_)
    · have h := h.1 (fun q => n_X7_isBlank.mpr q c20)
      exact q_subL rfl (h.1 hA)
    · have h := h.2 (n_X7_isBlank.mp c20)
      refine q_aload_n eX7_readToken_23 rfl ?_
      refine q_dup eX7_readToken_24 rfl ?_
      refine q_getf (c := 7) (n := 0) (k := 4) (v := .int (Int32.ofInt (s.1 46 4))) eX7_readToken_25 rfl (by decide) (by decide) fX7_63 rfl ?_
      refine q_ic (v := Int32.ofInt 1) eX7_readToken_28 rfl ?_
      refine z_iadd eX7_readToken_29 ?_
      have r4 := h.1
      have h := h.2
      refine z_putI (c := 7) (n := 0) (k := 4) (kz := 4) eX7_readToken_30 rfl (by decide) (by decide) fX7_63 rfl rfl rfl ?_
      have r5 := h.1
      have h := h.2
      refine z_inc (m := 1) eX7_readToken_33 rfl (Nat.le_of_ble_eq_true rfl) rfl ?_
      refine q_goto (tgt := 2) eX7_readToken_36 (by decide) ?_
      exact q_subL rfl (h.1 (ra_ui hA r4) r5)
set_option maxRecDepth 20000 in
theorem s_X7_readToken {s : ST} {Q : ST → Prop} (h : RA s → K_X7_readToken_2 s 0 Q) : C_X7_readToken s Q := by
  refine ⟨?_, trivial⟩
  intro hA
  have h := h hA
  refine q_enter (by decide) (Nat.le_of_ble_eq_true rfl) ?_
  refine q_ic (v := Int32.ofInt 0) eX7_readToken_0 rfl ?_
  refine q_istore_n eX7_readToken_1 (Nat.le_of_ble_eq_true rfl) ?_
  exact q_subL rfl (h.1 hA (r32l rfl))
theorem eX7_isOwn_0 : decode cX7_isOwn 0 = .ok (.aload_n 0, 1) := by decide +kernel
theorem eX7_isOwn_1 : decode cX7_isOwn 1 = .ok (.getfield 69, 3) := by decide +kernel
theorem eX7_isOwn_4 : decode cX7_isOwn 4 = .ok (.iconst 1, 1) := by decide +kernel
theorem eX7_isOwn_5 : decode cX7_isOwn 5 = .ok (.if_icmp .ne 15, 3) := by decide +kernel
theorem eX7_isOwn_8 : decode cX7_isOwn 8 = .ok (.aload_n 0, 1) := by decide +kernel
theorem eX7_isOwn_9 : decode cX7_isOwn 9 = .ok (.getfield 88, 3) := by decide +kernel
theorem eX7_isOwn_12 : decode cX7_isOwn 12 = .ok (.iload_n 1, 1) := by decide +kernel
theorem eX7_isOwn_13 : decode cX7_isOwn 13 = .ok (.if_icmp .ne 7, 3) := by decide +kernel
theorem eX7_isOwn_16 : decode cX7_isOwn 16 = .ok (.iconst 1, 1) := by decide +kernel
theorem eX7_isOwn_17 : decode cX7_isOwn 17 = .ok (.goto 4, 3) := by decide +kernel
theorem eX7_isOwn_20 : decode cX7_isOwn 20 = .ok (.iconst 0, 1) := by decide +kernel
theorem eX7_isOwn_21 : decode cX7_isOwn 21 = .ok (.ireturn, 1) := by decide +kernel
def C_X7_isOwn (s : ST) (p : Int) (Q : ST → Int → Prop) : Prop := bx <| RA s → R32 p → q_met mX7_isOwn (qs layX s) [.ref 46, .int (Int32.ofInt p)] (PB layX Q)
theorem C_X7_isOwn.mono {s : ST} {p : Int} {Q Q' : ST → Int → Prop} (h : C_X7_isOwn s p Q) (hq : ∀ s v, Q s v → Q' s v) : C_X7_isOwn s p Q' := ⟨fun hA hrp => q_met.mono (h.1 hA hrp) (fun _ _ => PB.mono hq), trivial⟩
set_option maxRecDepth 20000 in
theorem s_X7_isOwn {s : ST} {p : Int} {Q : ST → Int → Prop} (h : RA s → R32 p → ((¬ s.1 46 5 = 1 → Q s 0) ∧ (s.1 46 5 = 1 → ((¬ s.1 46 9 = p → Q s 0) ∧ (s.1 46 9 = p → Q s 1))))) : C_X7_isOwn s p Q := by
  refine ⟨?_, trivial⟩
  intro hA hrp
  have h := h hA hrp
  refine q_enter (by decide) (Nat.le_of_ble_eq_true rfl) ?_
  refine q_aload_n eX7_isOwn_0 rfl ?_
  refine q_getf (c := 7) (n := 0) (k := 5) (v := .int (Int32.ofInt (s.1 46 5))) eX7_isOwn_1 rfl (by decide) (by decide) fX7_69 rfl ?_
  refine q_ic (v := Int32.ofInt 1) eX7_isOwn_4 rfl ?_
  refine q_cz_ne (tgt := 20) (a := s.1 46 5) (b := 1) eX7_isOwn_5 (by decide) (ofz (hA _ _)) (ofz (r32l rfl)) (fun c5 => ?_) (fun c5 => ?_)
  · have h := h.1 c5
    refine q_ic (v := Int32.ofInt 0) eX7_isOwn_20 rfl ?_
    exact q_zret eX7_isOwn_21 rfl (z01 (Or.inl rfl)) ⟨_, _, rfl, hA, (Or.inl rfl), rfl, h⟩
  · have h := h.2 c5
    refine q_aload_n eX7_isOwn_8 rfl ?_
    refine q_getf (c := 7) (n := 0) (k := 9) (v := .int (Int32.ofInt (s.1 46 9))) eX7_isOwn_9 rfl (by decide) (by decide) fX7_88 rfl ?_
    refine q_iload_n eX7_isOwn_12 rfl ?_
    refine q_cz_ne (tgt := 20) (a := s.1 46 9) (b := p) eX7_isOwn_13 (by decide) (ofz (hA _ _)) (ofz hrp) (fun c13 => ?_) (fun c13 => ?_)
    · have h := h.1 c13
      refine q_ic (v := Int32.ofInt 0) eX7_isOwn_20 rfl ?_
      exact q_zret eX7_isOwn_21 rfl (z01 (Or.inl rfl)) ⟨_, _, rfl, hA, (Or.inl rfl), rfl, h⟩
    · have h := h.2 c13
      refine q_ic (v := Int32.ofInt 1) eX7_isOwn_16 rfl ?_
      refine q_goto (tgt := 21) eX7_isOwn_17 (by decide) ?_
      exact q_zret eX7_isOwn_21 rfl (z01 (Or.inr rfl)) ⟨_, _, rfl, hA, (Or.inr rfl), rfl, h⟩
def F_X7_isOwn (s : ST) (p : Int) : Int := (if s.1 46 5 = 1 then (if s.1 46 9 = p then 1 else 0) else 0)
theorem w_X7_isOwn {s : ST} {p : Int} : C_X7_isOwn s p (fun s' v => s' = s ∧ v = F_X7_isOwn s p) := by
  refine s_X7_isOwn (fun hA hrp => ?_)
  refine ⟨fun e0 => ?_, fun e0 => ?_⟩
  · exact ⟨rfl, by unfold F_X7_isOwn; rw [if_neg e0]⟩
  · refine ⟨fun e1 => ?_, fun e1 => ?_⟩
    · exact ⟨rfl, by unfold F_X7_isOwn; rw [if_pos e0, if_neg e1]⟩
    · exact ⟨rfl, by unfold F_X7_isOwn; rw [if_pos e0, if_pos e1]⟩
theorem p_X7_isOwn {s : ST} {p : Int} : RA s → R32 p → q_met mX7_isOwn (qs layX s) [.ref 46, .int (Int32.ofInt p)] (fun σ r => (F_X7_isOwn s p = 0 ∨ F_X7_isOwn s p = 1) ∧ σ = qs layX s ∧ r = some (.int (Int32.ofInt (F_X7_isOwn s p)))) := fun hA hrp => q_met.mono ((w_X7_isOwn).1 hA hrp) (by
  rintro _ _ ⟨s1, v1, rfl, h1, h2, rfl, rfl, rfl⟩
  exact ⟨h2, rfl, rfl⟩)
theorem n_X7_isOwn {s : ST} {p : Int} : ¬ F_X7_isOwn s p = 0 ↔ (s.1 46 5 = 1 ∧ s.1 46 9 = p) := by
  unfold F_X7_isOwn
  first | omega | ((repeat' split) <;> simp_all) | ((repeat' split) <;> (simp_all <;> omega))
theorem eX7_faultIs_0 : decode cX7_faultIs 0 = .ok (.aload_n 0, 1) := by decide +kernel
theorem eX7_faultIs_1 : decode cX7_faultIs 1 = .ok (.iload_n 1, 1) := by decide +kernel
theorem eX7_faultIs_2 : decode cX7_faultIs 2 = .ok (.putfield 60, 3) := by decide +kernel
theorem eX7_faultIs_5 : decode cX7_faultIs 5 = .ok (.aload_n 0, 1) := by decide +kernel
theorem eX7_faultIs_6 : decode cX7_faultIs 6 = .ok (.aload_n 0, 1) := by decide +kernel
theorem eX7_faultIs_7 : decode cX7_faultIs 7 = .ok (.getfield 81, 3) := by decide +kernel
theorem eX7_faultIs_10 : decode cX7_faultIs 10 = .ok (.putfield 9, 3) := by decide +kernel
theorem eX7_faultIs_13 : decode cX7_faultIs 13 = .ok (.return_, 1) := by decide +kernel
def C_X7_faultIs (s : ST) (p : Int) (Q : ST → Prop) : Prop := bx <| RA s → R32 p → q_met mX7_faultIs (qs layX s) [.ref 46, .int (Int32.ofInt p)] (PV layX Q)
theorem C_X7_faultIs.mono {s : ST} {p : Int} {Q Q' : ST → Prop} (h : C_X7_faultIs s p Q) (hq : ∀ s, Q s → Q' s) : C_X7_faultIs s p Q' := ⟨fun hA hrp => q_met.mono (h.1 hA hrp) (fun _ _ => PV.mono hq), trivial⟩
set_option maxRecDepth 20000 in
theorem s_X7_faultIs {s : ST} {p : Int} {Q : ST → Prop} (h : RA s → R32 p → Q (ui (ui s 46 0 p) 46 1 (s.1 46 6))) : C_X7_faultIs s p Q := by
  refine ⟨?_, trivial⟩
  intro hA hrp
  have h := h hA hrp
  refine q_enter (by decide) (Nat.le_of_ble_eq_true rfl) ?_
  refine q_aload_n eX7_faultIs_0 rfl ?_
  refine q_iload_n eX7_faultIs_1 rfl ?_
  refine z_putI (c := 7) (n := 0) (k := 0) (kz := 0) eX7_faultIs_2 rfl (by decide) (by decide) fX7_60 rfl rfl rfl ?_
  refine q_aload_n eX7_faultIs_5 rfl ?_
  refine q_aload_n eX7_faultIs_6 rfl ?_
  refine q_getf (c := 7) (n := 0) (k := 6) (v := .int (Int32.ofInt (s.1 46 6))) eX7_faultIs_7 rfl (by decide) (by decide) fX7_81 rfl ?_
  refine z_putI (c := 7) (n := 0) (k := 1) (kz := 1) eX7_faultIs_10 rfl (by decide) (by decide) fX7_9 rfl rfl rfl ?_
  exact q_ret eX7_faultIs_13 rfl ⟨_, rfl, (ra_ui (ra_ui hA hrp) (hA _ _)), rfl, h⟩
theorem eX7_refuseToken_0 : decode cX7_refuseToken 0 = .ok (.aload_n 0, 1) := by decide +kernel
theorem eX7_refuseToken_1 : decode cX7_refuseToken 1 = .ok (.aload_n 0, 1) := by decide +kernel
theorem eX7_refuseToken_2 : decode cX7_refuseToken 2 = .ok (.getfield 69, 3) := by decide +kernel
theorem eX7_refuseToken_5 : decode cX7_refuseToken 5 = .ok (.iconst 4, 1) := by decide +kernel
theorem eX7_refuseToken_6 : decode cX7_refuseToken 6 = .ok (.if_icmp .ne 7, 3) := by decide +kernel
theorem eX7_refuseToken_9 : decode cX7_refuseToken 9 = .ok (.iconst 1, 1) := by decide +kernel
theorem eX7_refuseToken_10 : decode cX7_refuseToken 10 = .ok (.goto 4, 3) := by decide +kernel
theorem eX7_refuseToken_13 : decode cX7_refuseToken 13 = .ok (.iconst 2, 1) := by decide +kernel
theorem eX7_refuseToken_14 : decode cX7_refuseToken 14 = .ok (.invokevirtual 84, 3) := by decide +kernel
theorem eX7_refuseToken_17 : decode cX7_refuseToken 17 = .ok (.return_, 1) := by decide +kernel
def C_X7_refuseToken (s : ST) (Q : ST → Prop) : Prop := bx <| RA s → q_met mX7_refuseToken (qs layX s) [.ref 46] (PV layX Q)
theorem C_X7_refuseToken.mono {s : ST} {Q Q' : ST → Prop} (h : C_X7_refuseToken s Q) (hq : ∀ s, Q s → Q' s) : C_X7_refuseToken s Q' := ⟨fun hA => q_met.mono (h.1 hA) (fun _ _ => PV.mono hq), trivial⟩
def K_X7_refuseToken_14 (s : ST) (t1 : Int) (Q : ST → Prop) : Prop := bx <| RA s → R32 t1 → q_K mX7_refuseToken (qs layX s) 0 0 14 [] [.int (Int32.ofInt t1), .ref 46] (q_fin mX7_refuseToken (PV layX Q))
set_option maxRecDepth 20000 in
theorem s_X7_refuseToken_14 {s : ST} {t1 : Int} {Q : ST → Prop} (h : RA s → R32 t1 → (C_X7_faultIs s t1 (fun s1 => Q s1))) : K_X7_refuseToken_14 s t1 Q := by
  refine ⟨?_, trivial⟩
  intro hA hrt1
  have h := h hA hrt1
  refine q_V1 (ci := 7) (n := 0) eX7_refuseToken_14 DX7_faultIs lX7_84 rfl (by decide) rfl rfl rfl rfl (h.1 hA hrt1) ?_
  rintro _ _ ⟨s1, rfl, hA1, rfl, h⟩
  exact q_ret eX7_refuseToken_17 rfl ⟨_, rfl, hA1, rfl, h⟩
set_option maxRecDepth 20000 in
theorem s_X7_refuseToken {s : ST} {Q : ST → Prop} (h : RA s → ((¬ s.1 46 5 = 4 → K_X7_refuseToken_14 s 2 Q) ∧ (s.1 46 5 = 4 → K_X7_refuseToken_14 s 1 Q))) : C_X7_refuseToken s Q := by
  refine ⟨?_, trivial⟩
  intro hA
  have h := h hA
  refine q_enter (by decide) (Nat.le_of_ble_eq_true rfl) ?_
  refine q_aload_n eX7_refuseToken_0 rfl ?_
  refine q_aload_n eX7_refuseToken_1 rfl ?_
  refine q_getf (c := 7) (n := 0) (k := 5) (v := .int (Int32.ofInt (s.1 46 5))) eX7_refuseToken_2 rfl (by decide) (by decide) fX7_69 rfl ?_
  refine q_ic (v := Int32.ofInt 4) eX7_refuseToken_5 rfl ?_
  refine q_cz_ne (tgt := 13) (a := s.1 46 5) (b := 4) eX7_refuseToken_6 (by decide) (ofz (hA _ _)) (ofz (r32l rfl)) (fun c6 => ?_) (fun c6 => ?_)
  · have h := h.1 c6
    refine q_ic (v := Int32.ofInt 2) eX7_refuseToken_13 rfl ?_
    exact q_subL rfl (h.1 hA (r32l rfl))
  · have h := h.2 c6
    refine q_ic (v := Int32.ofInt 1) eX7_refuseToken_9 rfl ?_
    refine q_goto (tgt := 14) eX7_refuseToken_10 (by decide) ?_
    exact q_subL rfl (h.1 hA (r32l rfl))
theorem eX7_isName_0 : decode cX7_isName 0 = .ok (.aload_n 0, 1) := by decide +kernel
theorem eX7_isName_1 : decode cX7_isName 1 = .ok (.getfield 69, 3) := by decide +kernel
theorem eX7_isName_4 : decode cX7_isName 4 = .ok (.iconst 1, 1) := by decide +kernel
theorem eX7_isName_5 : decode cX7_isName 5 = .ok (.if_icmp .ne 15, 3) := by decide +kernel
theorem eX7_isName_8 : decode cX7_isName 8 = .ok (.aload_n 0, 1) := by decide +kernel
theorem eX7_isName_9 : decode cX7_isName 9 = .ok (.getfield 88, 3) := by decide +kernel
theorem eX7_isName_12 : decode cX7_isName 12 = .ok (.iconst (-1), 1) := by decide +kernel
theorem eX7_isName_13 : decode cX7_isName 13 = .ok (.if_icmp .ne 7, 3) := by decide +kernel
theorem eX7_isName_16 : decode cX7_isName 16 = .ok (.iconst 1, 1) := by decide +kernel
theorem eX7_isName_17 : decode cX7_isName 17 = .ok (.goto 4, 3) := by decide +kernel
theorem eX7_isName_20 : decode cX7_isName 20 = .ok (.iconst 0, 1) := by decide +kernel
theorem eX7_isName_21 : decode cX7_isName 21 = .ok (.ireturn, 1) := by decide +kernel
def C_X7_isName (s : ST) (Q : ST → Int → Prop) : Prop := bx <| RA s → q_met mX7_isName (qs layX s) [.ref 46] (PB layX Q)
theorem C_X7_isName.mono {s : ST} {Q Q' : ST → Int → Prop} (h : C_X7_isName s Q) (hq : ∀ s v, Q s v → Q' s v) : C_X7_isName s Q' := ⟨fun hA => q_met.mono (h.1 hA) (fun _ _ => PB.mono hq), trivial⟩
set_option maxRecDepth 20000 in
theorem s_X7_isName {s : ST} {Q : ST → Int → Prop} (h : RA s → ((¬ s.1 46 5 = 1 → Q s 0) ∧ (s.1 46 5 = 1 → ((¬ s.1 46 9 = (-1) → Q s 0) ∧ (s.1 46 9 = (-1) → Q s 1))))) : C_X7_isName s Q := by
  refine ⟨?_, trivial⟩
  intro hA
  have h := h hA
  refine q_enter (by decide) (Nat.le_of_ble_eq_true rfl) ?_
  refine q_aload_n eX7_isName_0 rfl ?_
  refine q_getf (c := 7) (n := 0) (k := 5) (v := .int (Int32.ofInt (s.1 46 5))) eX7_isName_1 rfl (by decide) (by decide) fX7_69 rfl ?_
  refine q_ic (v := Int32.ofInt 1) eX7_isName_4 rfl ?_
  refine q_cz_ne (tgt := 20) (a := s.1 46 5) (b := 1) eX7_isName_5 (by decide) (ofz (hA _ _)) (ofz (r32l rfl)) (fun c5 => ?_) (fun c5 => ?_)
  · have h := h.1 c5
    refine q_ic (v := Int32.ofInt 0) eX7_isName_20 rfl ?_
    exact q_zret eX7_isName_21 rfl (z01 (Or.inl rfl)) ⟨_, _, rfl, hA, (Or.inl rfl), rfl, h⟩
  · have h := h.2 c5
    refine q_aload_n eX7_isName_8 rfl ?_
    refine q_getf (c := 7) (n := 0) (k := 9) (v := .int (Int32.ofInt (s.1 46 9))) eX7_isName_9 rfl (by decide) (by decide) fX7_88 rfl ?_
    refine q_ic (v := Int32.ofInt (-1)) eX7_isName_12 rfl ?_
    refine q_cz_ne (tgt := 20) (a := s.1 46 9) (b := (-1)) eX7_isName_13 (by decide) (ofz (hA _ _)) (ofz (r32l rfl)) (fun c13 => ?_) (fun c13 => ?_)
    · have h := h.1 c13
      refine q_ic (v := Int32.ofInt 0) eX7_isName_20 rfl ?_
      exact q_zret eX7_isName_21 rfl (z01 (Or.inl rfl)) ⟨_, _, rfl, hA, (Or.inl rfl), rfl, h⟩
    · have h := h.2 c13
      refine q_ic (v := Int32.ofInt 1) eX7_isName_16 rfl ?_
      refine q_goto (tgt := 21) eX7_isName_17 (by decide) ?_
      exact q_zret eX7_isName_21 rfl (z01 (Or.inr rfl)) ⟨_, _, rfl, hA, (Or.inr rfl), rfl, h⟩
def F_X7_isName (s : ST) : Int := (if s.1 46 5 = 1 then (if s.1 46 9 = (-1) then 1 else 0) else 0)
theorem w_X7_isName {s : ST} : C_X7_isName s (fun s' v => s' = s ∧ v = F_X7_isName s) := by
  refine s_X7_isName (fun hA => ?_)
  refine ⟨fun e0 => ?_, fun e0 => ?_⟩
  · exact ⟨rfl, by unfold F_X7_isName; rw [if_neg e0]⟩
  · refine ⟨fun e1 => ?_, fun e1 => ?_⟩
    · exact ⟨rfl, by unfold F_X7_isName; rw [if_pos e0, if_neg e1]⟩
    · exact ⟨rfl, by unfold F_X7_isName; rw [if_pos e0, if_pos e1]⟩
theorem p_X7_isName {s : ST} : RA s → q_met mX7_isName (qs layX s) [.ref 46] (fun σ r => (F_X7_isName s = 0 ∨ F_X7_isName s = 1) ∧ σ = qs layX s ∧ r = some (.int (Int32.ofInt (F_X7_isName s)))) := fun hA => q_met.mono ((w_X7_isName).1 hA) (by
  rintro _ _ ⟨s1, v1, rfl, h1, h2, rfl, rfl, rfl⟩
  exact ⟨h2, rfl, rfl⟩)
theorem n_X7_isName {s : ST} : ¬ F_X7_isName s = 0 ↔ (s.1 46 5 = 1 ∧ s.1 46 9 = (-1)) := by
  unfold F_X7_isName
  first | omega | ((repeat' split) <;> simp_all) | ((repeat' split) <;> (simp_all <;> omega))
theorem eX7_readDef_0 : decode cX7_readDef 0 = .ok (.aload_n 0, 1) := by decide +kernel
theorem eX7_readDef_1 : decode cX7_readDef 1 = .ok (.iconst 2, 1) := by decide +kernel
theorem eX7_readDef_2 : decode cX7_readDef 2 = .ok (.invokevirtual 91, 3) := by decide +kernel
theorem eX7_readDef_5 : decode cX7_readDef 5 = .ok (.ifCond .eq 25, 3) := by decide +kernel
theorem eX7_readDef_8 : decode cX7_readDef 8 = .ok (.aload_n 0, 1) := by decide +kernel
theorem eX7_readDef_9 : decode cX7_readDef 9 = .ok (.getfield 33, 3) := by decide +kernel
theorem eX7_readDef_12 : decode cX7_readDef 12 = .ok (.getfield 95, 3) := by decide +kernel
theorem eX7_readDef_15 : decode cX7_readDef 15 = .ok (.ifCond .lt 15, 3) := by decide +kernel
theorem eX7_readDef_18 : decode cX7_readDef 18 = .ok (.aload_n 0, 1) := by decide +kernel
theorem eX7_readDef_19 : decode cX7_readDef 19 = .ok (.getfield 33, 3) := by decide +kernel
theorem eX7_readDef_22 : decode cX7_readDef 22 = .ok (.getfield 95, 3) := by decide +kernel
theorem eX7_readDef_25 : decode cX7_readDef 25 = .ok (.bipush 8, 2) := by decide +kernel
theorem eX7_readDef_27 : decode cX7_readDef 27 = .ok (.if_icmp .lt 8, 3) := by decide +kernel
theorem eX7_readDef_30 : decode cX7_readDef 30 = .ok (.aload_n 0, 1) := by decide +kernel
theorem eX7_readDef_31 : decode cX7_readDef 31 = .ok (.invokevirtual 98, 3) := by decide +kernel
theorem eX7_readDef_34 : decode cX7_readDef 34 = .ok (.return_, 1) := by decide +kernel
theorem eX7_readDef_35 : decode cX7_readDef 35 = .ok (.aload_n 0, 1) := by decide +kernel
theorem eX7_readDef_36 : decode cX7_readDef 36 = .ok (.invokevirtual 66, 3) := by decide +kernel
theorem eX7_readDef_39 : decode cX7_readDef 39 = .ok (.aload_n 0, 1) := by decide +kernel
theorem eX7_readDef_40 : decode cX7_readDef 40 = .ok (.invokevirtual 101, 3) := by decide +kernel
theorem eX7_readDef_43 : decode cX7_readDef 43 = .ok (.ifCond .ne 8, 3) := by decide +kernel
theorem eX7_readDef_46 : decode cX7_readDef 46 = .ok (.aload_n 0, 1) := by decide +kernel
theorem eX7_readDef_47 : decode cX7_readDef 47 = .ok (.invokevirtual 98, 3) := by decide +kernel
theorem eX7_readDef_50 : decode cX7_readDef 50 = .ok (.return_, 1) := by decide +kernel
theorem eX7_readDef_51 : decode cX7_readDef 51 = .ok (.iconst 0, 1) := by decide +kernel
theorem eX7_readDef_52 : decode cX7_readDef 52 = .ok (.istore_n 1, 1) := by decide +kernel
theorem eX7_readDef_53 : decode cX7_readDef 53 = .ok (.iload_n 1, 1) := by decide +kernel
theorem eX7_readDef_54 : decode cX7_readDef 54 = .ok (.aload_n 0, 1) := by decide +kernel
theorem eX7_readDef_55 : decode cX7_readDef 55 = .ok (.getfield 33, 3) := by decide +kernel
theorem eX7_readDef_58 : decode cX7_readDef 58 = .ok (.getfield 95, 3) := by decide +kernel
theorem eX7_readDef_61 : decode cX7_readDef 61 = .ok (.if_icmp .ge 38, 3) := by decide +kernel
theorem eX7_readDef_64 : decode cX7_readDef 64 = .ok (.iload_n 1, 1) := by decide +kernel
theorem eX7_readDef_65 : decode cX7_readDef 65 = .ok (.bipush 8, 2) := by decide +kernel
theorem eX7_readDef_67 : decode cX7_readDef 67 = .ok (.if_icmp .ge 32, 3) := by decide +kernel
theorem eX7_readDef_70 : decode cX7_readDef 70 = .ok (.aload_n 0, 1) := by decide +kernel
theorem eX7_readDef_71 : decode cX7_readDef 71 = .ok (.getfield 33, 3) := by decide +kernel
theorem eX7_readDef_74 : decode cX7_readDef 74 = .ok (.getfield 105, 3) := by decide +kernel
theorem eX7_readDef_77 : decode cX7_readDef 77 = .ok (.iload_n 1, 1) := by decide +kernel
theorem eX7_readDef_78 : decode cX7_readDef 78 = .ok (.laload, 1) := by decide +kernel
theorem eX7_readDef_79 : decode cX7_readDef 79 = .ok (.aload_n 0, 1) := by decide +kernel
theorem eX7_readDef_80 : decode cX7_readDef 80 = .ok (.getfield 108, 3) := by decide +kernel
theorem eX7_readDef_83 : decode cX7_readDef 83 = .ok (.lcmp, 1) := by decide +kernel
theorem eX7_readDef_84 : decode cX7_readDef 84 = .ok (.ifCond .ne 9, 3) := by decide +kernel
theorem eX7_readDef_87 : decode cX7_readDef 87 = .ok (.aload_n 0, 1) := by decide +kernel
theorem eX7_readDef_88 : decode cX7_readDef 88 = .ok (.iconst 3, 1) := by decide +kernel
theorem eX7_readDef_89 : decode cX7_readDef 89 = .ok (.invokevirtual 84, 3) := by decide +kernel
theorem eX7_readDef_92 : decode cX7_readDef 92 = .ok (.return_, 1) := by decide +kernel
theorem eX7_readDef_93 : decode cX7_readDef 93 = .ok (.iinc 1 1, 3) := by decide +kernel
theorem eX7_readDef_96 : decode cX7_readDef 96 = .ok (.goto (-43), 3) := by decide +kernel
theorem eX7_readDef_99 : decode cX7_readDef 99 = .ok (.aload_n 0, 1) := by decide +kernel
theorem eX7_readDef_100 : decode cX7_readDef 100 = .ok (.getfield 33, 3) := by decide +kernel
theorem eX7_readDef_103 : decode cX7_readDef 103 = .ok (.getfield 105, 3) := by decide +kernel
theorem eX7_readDef_106 : decode cX7_readDef 106 = .ok (.aload_n 0, 1) := by decide +kernel
theorem eX7_readDef_107 : decode cX7_readDef 107 = .ok (.getfield 33, 3) := by decide +kernel
theorem eX7_readDef_110 : decode cX7_readDef 110 = .ok (.getfield 95, 3) := by decide +kernel
theorem eX7_readDef_113 : decode cX7_readDef 113 = .ok (.aload_n 0, 1) := by decide +kernel
theorem eX7_readDef_114 : decode cX7_readDef 114 = .ok (.getfield 108, 3) := by decide +kernel
theorem eX7_readDef_117 : decode cX7_readDef 117 = .ok (.lastore, 1) := by decide +kernel
theorem eX7_readDef_118 : decode cX7_readDef 118 = .ok (.aload_n 0, 1) := by decide +kernel
theorem eX7_readDef_119 : decode cX7_readDef 119 = .ok (.getfield 33, 3) := by decide +kernel
theorem eX7_readDef_122 : decode cX7_readDef 122 = .ok (.dup, 1) := by decide +kernel
theorem eX7_readDef_123 : decode cX7_readDef 123 = .ok (.getfield 95, 3) := by decide +kernel
theorem eX7_readDef_126 : decode cX7_readDef 126 = .ok (.iconst 1, 1) := by decide +kernel
theorem eX7_readDef_127 : decode cX7_readDef 127 = .ok (.iadd, 1) := by decide +kernel
theorem eX7_readDef_128 : decode cX7_readDef 128 = .ok (.putfield 95, 3) := by decide +kernel
theorem eX7_readDef_131 : decode cX7_readDef 131 = .ok (.aload_n 0, 1) := by decide +kernel
theorem eX7_readDef_132 : decode cX7_readDef 132 = .ok (.invokevirtual 66, 3) := by decide +kernel
theorem eX7_readDef_135 : decode cX7_readDef 135 = .ok (.return_, 1) := by decide +kernel
def C_X7_readDef (s : ST) (Q : ST → Prop) : Prop := bx <| RA s → q_met mX7_readDef (qs layX s) [.ref 46] (PV layX Q)
theorem C_X7_readDef.mono {s : ST} {Q Q' : ST → Prop} (h : C_X7_readDef s Q) (hq : ∀ s, Q s → Q' s) : C_X7_readDef s Q' := ⟨fun hA => q_met.mono (h.1 hA) (fun _ _ => PV.mono hq), trivial⟩
def K_X7_readDef_99 (s : ST) (Q : ST → Prop) : Prop := bx <| RA s → q_K mX7_readDef (qs layX s) 0 0 99 [(0, .ref 46)] [] (q_fin mX7_readDef (PV layX Q))
def K_X7_readDef_53 (s : ST) (a1 : Int) (Q : ST → Prop) : Prop := bx <| RA s → R32 a1 → q_K mX7_readDef (qs layX s) 0 0 53 [(0, .ref 46), (1, .int (Int32.ofInt a1))] [] (q_fin mX7_readDef (PV layX Q))
def K_X7_readDef_30 (s : ST) (Q : ST → Prop) : Prop := bx <| RA s → q_K mX7_readDef (qs layX s) 0 0 30 [(0, .ref 46)] [] (q_fin mX7_readDef (PV layX Q))
set_option maxRecDepth 20000 in
theorem s_X7_readDef_99 {s : ST} {Q : ST → Prop} (h : RA s → (((0 : Int) ≤ s.1 18 0 ∧ s.1 18 0 < 8) ∧ (R32 (s.1 18 0 + 1) ∧ (C_X7_readToken (ui (uj s 19 (s.1 18 0) (s.2 46 7)) 18 0 (s.1 18 0 + 1)) (fun s3 => Q s3))))) : K_X7_readDef_99 s Q := by
  refine ⟨?_, trivial⟩
  intro hA
  have h := h hA
  refine q_aload_n eX7_readDef_99 rfl ?_
  refine q_getR (c := 7) (n := 0) (k := 10) (a := 18) eX7_readDef_100 rfl (by decide) (by decide) fX7_33 rfl rfl ?_
  refine q_getR (c := 9) (n := 0) (k := 3) (a := 19) eX7_readDef_103 rfl (by decide) (by decide) fX7_105 rfl rfl ?_
  refine q_aload_n eX7_readDef_106 rfl ?_
  refine q_getR (c := 7) (n := 0) (k := 10) (a := 18) eX7_readDef_107 rfl (by decide) (by decide) fX7_33 rfl rfl ?_
  refine q_getf (c := 9) (n := 0) (k := 0) (v := .int (Int32.ofInt (s.1 18 0))) eX7_readDef_110 rfl (by decide) (by decide) fX7_95 rfl ?_
  refine q_aload_n eX7_readDef_113 rfl ?_
  refine q_getf (c := 7) (n := 0) (k := 7) (v := .long (s.2 46 7)) eX7_readDef_114 rfl (by decide) (by decide) fX7_108 rfl ?_
  have f1 := h.1
  have h := h.2
  refine z_last (n := 8) eX7_readDef_117 rfl (ofz (hA _ _)) f1  ?_
  refine q_aload_n eX7_readDef_118 rfl ?_
  refine q_getR (c := 7) (n := 0) (k := 10) (a := 18) eX7_readDef_119 rfl (by decide) (by decide) fX7_33 rfl rfl ?_
  refine q_dup eX7_readDef_122 rfl ?_
  refine q_getf (c := 9) (n := 0) (k := 0) (v := .int (Int32.ofInt (s.1 18 0))) eX7_readDef_123 rfl (by decide) (by decide) fX7_95 rfl ?_
  refine q_ic (v := Int32.ofInt 1) eX7_readDef_126 rfl ?_
  refine z_iadd eX7_readDef_127 ?_
  have r2 := h.1
  have h := h.2
  refine z_putI (c := 9) (n := 0) (k := 0) (kz := 0) eX7_readDef_128 rfl (by decide) (by decide) fX7_95 rfl rfl rfl ?_
  refine q_aload_n eX7_readDef_131 rfl ?_
  refine q_V0 (ci := 7) (n := 0) eX7_readDef_132 DX7_readToken lX7_66 rfl (by decide) rfl rfl rfl rfl (h.1 (ra_ui (ra_uj hA) r2)) ?_
  rintro _ _ ⟨s3, rfl, hA3, rfl, h⟩
  exact q_ret eX7_readDef_135 rfl ⟨_, rfl, hA3, rfl, h⟩
set_option maxRecDepth 20000 in
theorem s_X7_readDef_53 {s : ST} {a1 : Int} {Q : ST → Prop} (h : RA s → R32 a1 → ((s.1 18 0 ≤ a1 → K_X7_readDef_99 s Q) ∧ (¬ s.1 18 0 ≤ a1 → ((8 ≤ a1 → K_X7_readDef_99 s Q) ∧ (¬ 8 ≤ a1 → (((0 : Int) ≤ a1 ∧ a1 < 8) ∧ ((¬ (s.2 19 a1) = (s.2 46 7) → (R32 (a1 + 1) ∧ K_X7_readDef_53 s (a1 + 1) Q)) ∧ ((s.2 19 a1) = (s.2 46 7) → (C_X7_faultIs s 3 (fun s3 => Q s3)))))))))) : K_X7_readDef_53 s a1 Q := by
  refine ⟨?_, trivial⟩
  intro hA hra1
  have h := h hA hra1
  refine q_iload_n eX7_readDef_53 rfl ?_
  refine q_aload_n eX7_readDef_54 rfl ?_
  refine q_getR (c := 7) (n := 0) (k := 10) (a := 18) eX7_readDef_55 rfl (by decide) (by decide) fX7_33 rfl rfl ?_
  refine q_getf (c := 9) (n := 0) (k := 0) (v := .int (Int32.ofInt (s.1 18 0))) eX7_readDef_58 rfl (by decide) (by decide) fX7_95 rfl ?_
  refine q_cz_ge (tgt := 99) (a := a1) (b := s.1 18 0) eX7_readDef_61 (by decide) (ofz hra1) (ofz (hA _ _)) (fun c61 => ?_) (fun c61 => ?_)
  · have h := h.1 c61
    exact q_subL rfl (h.1 hA)
  · have h := h.2 c61
    refine q_iload_n eX7_readDef_64 rfl ?_
    refine q_bi (v := Int32.ofInt 8) eX7_readDef_65 rfl ?_
    refine q_cz_ge (tgt := 99) (a := a1) (b := 8) eX7_readDef_67 (by decide) (ofz hra1) (ofz (r32l rfl)) (fun c67 => ?_) (fun c67 => ?_)
    · have h := h.1 c67
      exact q_subL rfl (h.1 hA)
    · have h := h.2 c67
      refine q_aload_n eX7_readDef_70 rfl ?_
      refine q_getR (c := 7) (n := 0) (k := 10) (a := 18) eX7_readDef_71 rfl (by decide) (by decide) fX7_33 rfl rfl ?_
      refine q_getR (c := 9) (n := 0) (k := 3) (a := 19) eX7_readDef_74 rfl (by decide) (by decide) fX7_105 rfl rfl ?_
      refine q_iload_n eX7_readDef_77 rfl ?_
      have f1 := h.1
      have h := h.2
      refine z_lald (n := 8) eX7_readDef_78 rfl (ofz hra1) f1 ?_
      refine q_topL (v := s.2 19 a1) rfl ?_
      refine q_aload_n eX7_readDef_79 rfl ?_
      refine q_getf (c := 7) (n := 0) (k := 7) (v := .long (s.2 46 7)) eX7_readDef_80 rfl (by decide) (by decide) fX7_108 rfl ?_
      refine q_lcmp eX7_readDef_83 ?_
      refine z_lc_ne (tgt := 93) eX7_readDef_84 (by decide) (fun c84 => ?_) (fun c84 => ?_)
      · have h := h.1 c84
        have r2 := h.1
        have h := h.2
        refine z_inc (m := 1) eX7_readDef_93 rfl (Nat.le_of_ble_eq_true rfl) rfl ?_
        refine q_goto (tgt := 53) eX7_readDef_96 (by decide) ?_
        exact q_subL rfl (h.1 hA r2)
      · have h := h.2 c84
        refine q_aload_n eX7_readDef_87 rfl ?_
        refine q_ic (v := Int32.ofInt 3) eX7_readDef_88 rfl ?_
        refine q_V1 (ci := 7) (n := 0) eX7_readDef_89 DX7_faultIs lX7_84 rfl (by decide) rfl rfl rfl rfl (h.1 hA (r32l rfl)) ?_
        rintro _ _ ⟨s3, rfl, hA3, rfl, h⟩
        exact q_ret eX7_readDef_92 rfl ⟨_, rfl, hA3, rfl, h⟩
set_option maxRecDepth 20000 in
theorem s_X7_readDef_30 {s : ST} {Q : ST → Prop} (h : RA s → (C_X7_refuseToken s (fun s1 => Q s1))) : K_X7_readDef_30 s Q := by
  refine ⟨?_, trivial⟩
  intro hA
  have h := h hA
  refine q_aload_n eX7_readDef_30 rfl ?_
  refine q_V0 (ci := 7) (n := 0) eX7_readDef_31 DX7_refuseToken lX7_98 rfl (by decide) rfl rfl rfl rfl (h.1 hA) ?_
  rintro _ _ ⟨s1, rfl, hA1, rfl, h⟩
  exact q_ret eX7_readDef_34 rfl ⟨_, rfl, hA1, rfl, h⟩
set_option maxRecDepth 20000 in
theorem s_X7_readDef {s : ST} {Q : ST → Prop} (h : RA s → ((¬ (s.1 46 5 = 1 ∧ s.1 46 9 = 2) → K_X7_readDef_30 s Q) ∧ ((s.1 46 5 = 1 ∧ s.1 46 9 = 2) → ((s.1 18 0 < 0 → K_X7_readDef_30 s Q) ∧ (¬ s.1 18 0 < 0 → ((s.1 18 0 < 8 → (C_X7_readToken s (fun s2 => (((s2.1 46 5 = 1 ∧ s2.1 46 9 = (-1)) → K_X7_readDef_53 s2 0 Q) ∧ (¬ (s2.1 46 5 = 1 ∧ s2.1 46 9 = (-1)) → (C_X7_refuseToken s2 (fun s4 => Q s4))))))) ∧ (¬ s.1 18 0 < 8 → K_X7_readDef_30 s Q))))))) : C_X7_readDef s Q := by
  refine ⟨?_, trivial⟩
  intro hA
  have h := h hA
  refine q_enter (by decide) (Nat.le_of_ble_eq_true rfl) ?_
  refine q_aload_n eX7_readDef_0 rfl ?_
  refine q_ic (v := Int32.ofInt 2) eX7_readDef_1 rfl ?_
  refine q_V1 (ci := 7) (n := 0) eX7_readDef_2 DX7_isOwn lX7_91 rfl (by decide) rfl rfl rfl rfl (p_X7_isOwn hA (r32l rfl)) ?_
  rintro _ _ ⟨b1, rfl, rfl⟩
  refine q_iz_eq (tgt := 30) (a := (F_X7_isOwn s 2)) eX7_readDef_5 (by decide) (ofz (r01 b1)) (fun c5 => ?_) (fun c5 => ?_)
  · have h := h.1 (fun q => n_X7_isOwn.mpr q c5)
    exact q_subL rfl (h.1 hA)
  · have h := h.2 (n_X7_isOwn.mp c5)
    refine q_aload_n eX7_readDef_8 rfl ?_
    refine q_getR (c := 7) (n := 0) (k := 10) (a := 18) eX7_readDef_9 rfl (by decide) (by decide) fX7_33 rfl rfl ?_
    refine q_getf (c := 9) (n := 0) (k := 0) (v := .int (Int32.ofInt (s.1 18 0))) eX7_readDef_12 rfl (by decide) (by decide) fX7_95 rfl ?_
    refine q_iz_lt (tgt := 30) (a := s.1 18 0) eX7_readDef_15 (by decide) (ofz (hA _ _)) (fun c15 => ?_) (fun c15 => ?_)
    · have h := h.1 c15
      exact q_subL rfl (h.1 hA)
    · have h := h.2 c15
      refine q_aload_n eX7_readDef_18 rfl ?_
      refine q_getR (c := 7) (n := 0) (k := 10) (a := 18) eX7_readDef_19 rfl (by decide) (by decide) fX7_33 rfl rfl ?_
      refine q_getf (c := 9) (n := 0) (k := 0) (v := .int (Int32.ofInt (s.1 18 0))) eX7_readDef_22 rfl (by decide) (by decide) fX7_95 rfl ?_
      refine q_bi (v := Int32.ofInt 8) eX7_readDef_25 rfl ?_
      refine q_cz_lt (tgt := 35) (a := s.1 18 0) (b := 8) eX7_readDef_27 (by decide) (ofz (hA _ _)) (ofz (r32l rfl)) (fun c27 => ?_) (fun c27 => ?_)
      · have h := h.1 c27
        refine q_aload_n eX7_readDef_35 rfl ?_
        refine q_V0 (ci := 7) (n := 0) eX7_readDef_36 DX7_readToken lX7_66 rfl (by decide) rfl rfl rfl rfl (h.1 hA) ?_
        rintro _ _ ⟨s2, rfl, hA2, rfl, h⟩
        refine q_aload_n eX7_readDef_39 rfl ?_
        refine q_V0 (ci := 7) (n := 0) eX7_readDef_40 DX7_isName lX7_101 rfl (by decide) rfl rfl rfl rfl (p_X7_isName hA2) ?_
        rintro _ _ ⟨b3, rfl, rfl⟩
        refine q_iz_ne (tgt := 51) (a := (F_X7_isName s2)) eX7_readDef_43 (by decide) (ofz (r01 b3)) (fun c43 => ?_) (fun c43 => ?_)
        · have h := h.1 (n_X7_isName.mp c43)
          refine q_ic (v := Int32.ofInt 0) eX7_readDef_51 rfl ?_
          refine q_istore_n eX7_readDef_52 (Nat.le_of_ble_eq_true rfl) ?_
          exact q_subL rfl (h.1 hA2 (r32l rfl))
        · have h := h.2 (fun q => n_X7_isName.mpr q c43)
          refine q_aload_n eX7_readDef_46 rfl ?_
          refine q_V0 (ci := 7) (n := 0) eX7_readDef_47 DX7_refuseToken lX7_98 rfl (by decide) rfl rfl rfl rfl (h.1 hA2) ?_
          rintro _ _ ⟨s4, rfl, hA4, rfl, h⟩
          exact q_ret eX7_readDef_50 rfl ⟨_, rfl, hA4, rfl, h⟩
      · have h := h.2 c27
        exact q_subL rfl (h.1 hA)
theorem eX7_sortHere_0 : decode cX7_sortHere 0 = .ok (.aload_n 0, 1) := by decide +kernel
theorem eX7_sortHere_1 : decode cX7_sortHere 1 = .ok (.getfield 69, 3) := by decide +kernel
theorem eX7_sortHere_4 : decode cX7_sortHere 4 = .ok (.iconst 2, 1) := by decide +kernel
theorem eX7_sortHere_5 : decode cX7_sortHere 5 = .ok (.if_icmp .ne 5, 3) := by decide +kernel
theorem eX7_sortHere_8 : decode cX7_sortHere 8 = .ok (.iconst 0, 1) := by decide +kernel
theorem eX7_sortHere_9 : decode cX7_sortHere 9 = .ok (.ireturn, 1) := by decide +kernel
theorem eX7_sortHere_10 : decode cX7_sortHere 10 = .ok (.aload_n 0, 1) := by decide +kernel
theorem eX7_sortHere_11 : decode cX7_sortHere 11 = .ok (.getfield 69, 3) := by decide +kernel
theorem eX7_sortHere_14 : decode cX7_sortHere 14 = .ok (.iconst 1, 1) := by decide +kernel
theorem eX7_sortHere_15 : decode cX7_sortHere 15 = .ok (.if_icmp .eq 5, 3) := by decide +kernel
theorem eX7_sortHere_18 : decode cX7_sortHere 18 = .ok (.iconst (-1), 1) := by decide +kernel
theorem eX7_sortHere_19 : decode cX7_sortHere 19 = .ok (.ireturn, 1) := by decide +kernel
theorem eX7_sortHere_20 : decode cX7_sortHere 20 = .ok (.aload_n 0, 1) := by decide +kernel
theorem eX7_sortHere_21 : decode cX7_sortHere 21 = .ok (.getfield 88, 3) := by decide +kernel
theorem eX7_sortHere_24 : decode cX7_sortHere 24 = .ok (.iconst (-1), 1) := by decide +kernel
theorem eX7_sortHere_25 : decode cX7_sortHere 25 = .ok (.if_icmp .ne 5, 3) := by decide +kernel
theorem eX7_sortHere_28 : decode cX7_sortHere 28 = .ok (.iconst 2, 1) := by decide +kernel
theorem eX7_sortHere_29 : decode cX7_sortHere 29 = .ok (.ireturn, 1) := by decide +kernel
theorem eX7_sortHere_30 : decode cX7_sortHere 30 = .ok (.aload_n 0, 1) := by decide +kernel
theorem eX7_sortHere_31 : decode cX7_sortHere 31 = .ok (.getfield 88, 3) := by decide +kernel
theorem eX7_sortHere_34 : decode cX7_sortHere 34 = .ok (.iconst 1, 1) := by decide +kernel
theorem eX7_sortHere_35 : decode cX7_sortHere 35 = .ok (.if_icmp .gt 5, 3) := by decide +kernel
theorem eX7_sortHere_38 : decode cX7_sortHere 38 = .ok (.iconst 1, 1) := by decide +kernel
theorem eX7_sortHere_39 : decode cX7_sortHere 39 = .ok (.ireturn, 1) := by decide +kernel
theorem eX7_sortHere_40 : decode cX7_sortHere 40 = .ok (.aload_n 0, 1) := by decide +kernel
theorem eX7_sortHere_41 : decode cX7_sortHere 41 = .ok (.getfield 88, 3) := by decide +kernel
theorem eX7_sortHere_44 : decode cX7_sortHere 44 = .ok (.iconst 3, 1) := by decide +kernel
theorem eX7_sortHere_45 : decode cX7_sortHere 45 = .ok (.if_icmp .lt 19, 3) := by decide +kernel
theorem eX7_sortHere_48 : decode cX7_sortHere 48 = .ok (.aload_n 0, 1) := by decide +kernel
theorem eX7_sortHere_49 : decode cX7_sortHere 49 = .ok (.getfield 88, 3) := by decide +kernel
theorem eX7_sortHere_52 : decode cX7_sortHere 52 = .ok (.bipush 16, 2) := by decide +kernel
theorem eX7_sortHere_54 : decode cX7_sortHere 54 = .ok (.if_icmp .gt 10, 3) := by decide +kernel
theorem eX7_sortHere_57 : decode cX7_sortHere 57 = .ok (.aload_n 0, 1) := by decide +kernel
theorem eX7_sortHere_58 : decode cX7_sortHere 58 = .ok (.getfield 88, 3) := by decide +kernel
theorem eX7_sortHere_61 : decode cX7_sortHere 61 = .ok (.goto 4, 3) := by decide +kernel
theorem eX7_sortHere_64 : decode cX7_sortHere 64 = .ok (.iconst (-1), 1) := by decide +kernel
theorem eX7_sortHere_65 : decode cX7_sortHere 65 = .ok (.ireturn, 1) := by decide +kernel
def C_X7_sortHere (s : ST) (Q : ST → Int → Prop) : Prop := bx <| RA s → q_met mX7_sortHere (qs layX s) [.ref 46] (PI layX Q)
theorem C_X7_sortHere.mono {s : ST} {Q Q' : ST → Int → Prop} (h : C_X7_sortHere s Q) (hq : ∀ s v, Q s v → Q' s v) : C_X7_sortHere s Q' := ⟨fun hA => q_met.mono (h.1 hA) (fun _ _ => PI.mono hq), trivial⟩
set_option maxRecDepth 20000 in
theorem s_X7_sortHere {s : ST} {Q : ST → Int → Prop} (h : RA s → ((¬ s.1 46 5 = 2 → ((s.1 46 5 = 1 → ((¬ s.1 46 9 = (-1) → ((1 < s.1 46 9 → ((s.1 46 9 < 3 → Q s (-1)) ∧ (¬ s.1 46 9 < 3 → ((16 < s.1 46 9 → Q s (-1)) ∧ (¬ 16 < s.1 46 9 → Q s (s.1 46 9)))))) ∧ (¬ 1 < s.1 46 9 → Q s 1))) ∧ (s.1 46 9 = (-1) → Q s 2))) ∧ (¬ s.1 46 5 = 1 → Q s (-1)))) ∧ (s.1 46 5 = 2 → Q s 0))) : C_X7_sortHere s Q := by
  refine ⟨?_, trivial⟩
  intro hA
  have h := h hA
  refine q_enter (by decide) (Nat.le_of_ble_eq_true rfl) ?_
  refine q_aload_n eX7_sortHere_0 rfl ?_
  refine q_getf (c := 7) (n := 0) (k := 5) (v := .int (Int32.ofInt (s.1 46 5))) eX7_sortHere_1 rfl (by decide) (by decide) fX7_69 rfl ?_
  refine q_ic (v := Int32.ofInt 2) eX7_sortHere_4 rfl ?_
  refine q_cz_ne (tgt := 10) (a := s.1 46 5) (b := 2) eX7_sortHere_5 (by decide) (ofz (hA _ _)) (ofz (r32l rfl)) (fun c5 => ?_) (fun c5 => ?_)
  · have h := h.1 c5
    refine q_aload_n eX7_sortHere_10 rfl ?_
    refine q_getf (c := 7) (n := 0) (k := 5) (v := .int (Int32.ofInt (s.1 46 5))) eX7_sortHere_11 rfl (by decide) (by decide) fX7_69 rfl ?_
    refine q_ic (v := Int32.ofInt 1) eX7_sortHere_14 rfl ?_
    refine q_cz_eq (tgt := 20) (a := s.1 46 5) (b := 1) eX7_sortHere_15 (by decide) (ofz (hA _ _)) (ofz (r32l rfl)) (fun c15 => ?_) (fun c15 => ?_)
    · have h := h.1 c15
      refine q_aload_n eX7_sortHere_20 rfl ?_
      refine q_getf (c := 7) (n := 0) (k := 9) (v := .int (Int32.ofInt (s.1 46 9))) eX7_sortHere_21 rfl (by decide) (by decide) fX7_88 rfl ?_
      refine q_ic (v := Int32.ofInt (-1)) eX7_sortHere_24 rfl ?_
      refine q_cz_ne (tgt := 30) (a := s.1 46 9) (b := (-1)) eX7_sortHere_25 (by decide) (ofz (hA _ _)) (ofz (r32l rfl)) (fun c25 => ?_) (fun c25 => ?_)
      · have h := h.1 c25
        refine q_aload_n eX7_sortHere_30 rfl ?_
        refine q_getf (c := 7) (n := 0) (k := 9) (v := .int (Int32.ofInt (s.1 46 9))) eX7_sortHere_31 rfl (by decide) (by decide) fX7_88 rfl ?_
        refine q_ic (v := Int32.ofInt 1) eX7_sortHere_34 rfl ?_
        refine q_cz_gt (tgt := 40) (a := s.1 46 9) (b := 1) eX7_sortHere_35 (by decide) (ofz (hA _ _)) (ofz (r32l rfl)) (fun c35 => ?_) (fun c35 => ?_)
        · have h := h.1 c35
          refine q_aload_n eX7_sortHere_40 rfl ?_
          refine q_getf (c := 7) (n := 0) (k := 9) (v := .int (Int32.ofInt (s.1 46 9))) eX7_sortHere_41 rfl (by decide) (by decide) fX7_88 rfl ?_
          refine q_ic (v := Int32.ofInt 3) eX7_sortHere_44 rfl ?_
          refine q_cz_lt (tgt := 64) (a := s.1 46 9) (b := 3) eX7_sortHere_45 (by decide) (ofz (hA _ _)) (ofz (r32l rfl)) (fun c45 => ?_) (fun c45 => ?_)
          · have h := h.1 c45
            refine q_ic (v := Int32.ofInt (-1)) eX7_sortHere_64 rfl ?_
            exact q_iret eX7_sortHere_65 rfl ⟨_, _, rfl, hA, (r32l rfl), rfl, h⟩
          · have h := h.2 c45
            refine q_aload_n eX7_sortHere_48 rfl ?_
            refine q_getf (c := 7) (n := 0) (k := 9) (v := .int (Int32.ofInt (s.1 46 9))) eX7_sortHere_49 rfl (by decide) (by decide) fX7_88 rfl ?_
            refine q_bi (v := Int32.ofInt 16) eX7_sortHere_52 rfl ?_
            refine q_cz_gt (tgt := 64) (a := s.1 46 9) (b := 16) eX7_sortHere_54 (by decide) (ofz (hA _ _)) (ofz (r32l rfl)) (fun c54 => ?_) (fun c54 => ?_)
            · have h := h.1 c54
              refine q_ic (v := Int32.ofInt (-1)) eX7_sortHere_64 rfl ?_
              exact q_iret eX7_sortHere_65 rfl ⟨_, _, rfl, hA, (r32l rfl), rfl, h⟩
            · have h := h.2 c54
              refine q_aload_n eX7_sortHere_57 rfl ?_
              refine q_getf (c := 7) (n := 0) (k := 9) (v := .int (Int32.ofInt (s.1 46 9))) eX7_sortHere_58 rfl (by decide) (by decide) fX7_88 rfl ?_
              refine q_goto (tgt := 65) eX7_sortHere_61 (by decide) ?_
              exact q_iret eX7_sortHere_65 rfl ⟨_, _, rfl, hA, (hA _ _), rfl, h⟩
        · have h := h.2 c35
          refine q_ic (v := Int32.ofInt 1) eX7_sortHere_38 rfl ?_
          exact q_iret eX7_sortHere_39 rfl ⟨_, _, rfl, hA, (r32l rfl), rfl, h⟩
      · have h := h.2 c25
        refine q_ic (v := Int32.ofInt 2) eX7_sortHere_28 rfl ?_
        exact q_iret eX7_sortHere_29 rfl ⟨_, _, rfl, hA, (r32l rfl), rfl, h⟩
    · have h := h.2 c15
      refine q_ic (v := Int32.ofInt (-1)) eX7_sortHere_18 rfl ?_
      exact q_iret eX7_sortHere_19 rfl ⟨_, _, rfl, hA, (r32l rfl), rfl, h⟩
  · have h := h.2 c5
    refine q_ic (v := Int32.ofInt 0) eX7_sortHere_8 rfl ?_
    exact q_iret eX7_sortHere_9 rfl ⟨_, _, rfl, hA, (r32l rfl), rfl, h⟩
def F_X7_sortHere (s : ST) : Int := (if s.1 46 5 = 2 then 0 else (if s.1 46 5 = 1 then (if s.1 46 9 = (-1) then 2 else (if 1 < s.1 46 9 then (if s.1 46 9 < 3 then (-1) else (if 16 < s.1 46 9 then (-1) else s.1 46 9)) else 1)) else (-1)))
theorem w_X7_sortHere {s : ST} : C_X7_sortHere s (fun s' v => s' = s ∧ v = F_X7_sortHere s) := by
  refine s_X7_sortHere (fun hA => ?_)
  refine ⟨fun e0 => ?_, fun e0 => ?_⟩
  · refine ⟨fun e1 => ?_, fun e1 => ?_⟩
    · refine ⟨fun e2 => ?_, fun e2 => ?_⟩
      · refine ⟨fun e3 => ?_, fun e3 => ?_⟩
        · refine ⟨fun e4 => ?_, fun e4 => ?_⟩
          · exact ⟨rfl, by unfold F_X7_sortHere; rw [if_neg e0, if_pos e1, if_neg e2, if_pos e3, if_pos e4]⟩
          · refine ⟨fun e5 => ?_, fun e5 => ?_⟩
            · exact ⟨rfl, by unfold F_X7_sortHere; rw [if_neg e0, if_pos e1, if_neg e2, if_pos e3, if_neg e4, if_pos e5]⟩
            · exact ⟨rfl, by unfold F_X7_sortHere; rw [if_neg e0, if_pos e1, if_neg e2, if_pos e3, if_neg e4, if_neg e5]⟩
        · exact ⟨rfl, by unfold F_X7_sortHere; rw [if_neg e0, if_pos e1, if_neg e2, if_neg e3]⟩
      · exact ⟨rfl, by unfold F_X7_sortHere; rw [if_neg e0, if_pos e1, if_pos e2]⟩
    · exact ⟨rfl, by unfold F_X7_sortHere; rw [if_neg e0, if_neg e1]⟩
  · exact ⟨rfl, by unfold F_X7_sortHere; rw [if_pos e0]⟩
theorem p_X7_sortHere {s : ST} : RA s → q_met mX7_sortHere (qs layX s) [.ref 46] (fun σ r => R32 (F_X7_sortHere s) ∧ σ = qs layX s ∧ r = some (.int (Int32.ofInt (F_X7_sortHere s)))) := fun hA => q_met.mono ((w_X7_sortHere).1 hA) (by
  rintro _ _ ⟨s1, v1, rfl, h1, h2, rfl, rfl, rfl⟩
  exact ⟨h2, rfl, rfl⟩)
theorem eX7_valueHere_0 : decode cX7_valueHere 0 = .ok (.iload_n 1, 1) := by decide +kernel
theorem eX7_valueHere_1 : decode cX7_valueHere 1 = .ok (.ifCond .ne 8, 3) := by decide +kernel
theorem eX7_valueHere_4 : decode cX7_valueHere 4 = .ok (.aload_n 0, 1) := by decide +kernel
theorem eX7_valueHere_5 : decode cX7_valueHere 5 = .ok (.getfield 165, 3) := by decide +kernel
theorem eX7_valueHere_8 : decode cX7_valueHere 8 = .ok (.ireturn, 1) := by decide +kernel
theorem eX7_valueHere_9 : decode cX7_valueHere 9 = .ok (.iload_n 1, 1) := by decide +kernel
theorem eX7_valueHere_10 : decode cX7_valueHere 10 = .ok (.iconst 1, 1) := by decide +kernel
theorem eX7_valueHere_11 : decode cX7_valueHere 11 = .ok (.if_icmp .ne 10, 3) := by decide +kernel
theorem eX7_valueHere_14 : decode cX7_valueHere 14 = .ok (.aload_n 0, 1) := by decide +kernel
theorem eX7_valueHere_15 : decode cX7_valueHere 15 = .ok (.getfield 88, 3) := by decide +kernel
theorem eX7_valueHere_18 : decode cX7_valueHere 18 = .ok (.goto 4, 3) := by decide +kernel
theorem eX7_valueHere_21 : decode cX7_valueHere 21 = .ok (.iconst 0, 1) := by decide +kernel
theorem eX7_valueHere_22 : decode cX7_valueHere 22 = .ok (.ireturn, 1) := by decide +kernel
def C_X7_valueHere (s : ST) (p : Int) (Q : ST → Int → Prop) : Prop := bx <| RA s → R32 p → q_met mX7_valueHere (qs layX s) [.ref 46, .int (Int32.ofInt p)] (PI layX Q)
theorem C_X7_valueHere.mono {s : ST} {p : Int} {Q Q' : ST → Int → Prop} (h : C_X7_valueHere s p Q) (hq : ∀ s v, Q s v → Q' s v) : C_X7_valueHere s p Q' := ⟨fun hA hrp => q_met.mono (h.1 hA hrp) (fun _ _ => PI.mono hq), trivial⟩
set_option maxRecDepth 20000 in
theorem s_X7_valueHere {s : ST} {p : Int} {Q : ST → Int → Prop} (h : RA s → R32 p → ((¬ p = 0 → ((¬ p = 1 → Q s 0) ∧ (p = 1 → Q s (s.1 46 9)))) ∧ (p = 0 → Q s (s.1 46 8)))) : C_X7_valueHere s p Q := by
  refine ⟨?_, trivial⟩
  intro hA hrp
  have h := h hA hrp
  refine q_enter (by decide) (Nat.le_of_ble_eq_true rfl) ?_
  refine q_iload_n eX7_valueHere_0 rfl ?_
  refine q_iz_ne (tgt := 9) (a := p) eX7_valueHere_1 (by decide) (ofz hrp) (fun c1 => ?_) (fun c1 => ?_)
  · have h := h.1 c1
    refine q_iload_n eX7_valueHere_9 rfl ?_
    refine q_ic (v := Int32.ofInt 1) eX7_valueHere_10 rfl ?_
    refine q_cz_ne (tgt := 21) (a := p) (b := 1) eX7_valueHere_11 (by decide) (ofz hrp) (ofz (r32l rfl)) (fun c11 => ?_) (fun c11 => ?_)
    · have h := h.1 c11
      refine q_ic (v := Int32.ofInt 0) eX7_valueHere_21 rfl ?_
      exact q_iret eX7_valueHere_22 rfl ⟨_, _, rfl, hA, (r32l rfl), rfl, h⟩
    · have h := h.2 c11
      refine q_aload_n eX7_valueHere_14 rfl ?_
      refine q_getf (c := 7) (n := 0) (k := 9) (v := .int (Int32.ofInt (s.1 46 9))) eX7_valueHere_15 rfl (by decide) (by decide) fX7_88 rfl ?_
      refine q_goto (tgt := 22) eX7_valueHere_18 (by decide) ?_
      exact q_iret eX7_valueHere_22 rfl ⟨_, _, rfl, hA, (hA _ _), rfl, h⟩
  · have h := h.2 c1
    refine q_aload_n eX7_valueHere_4 rfl ?_
    refine q_getf (c := 7) (n := 0) (k := 8) (v := .int (Int32.ofInt (s.1 46 8))) eX7_valueHere_5 rfl (by decide) (by decide) fX7_165 rfl ?_
    exact q_iret eX7_valueHere_8 rfl ⟨_, _, rfl, hA, (hA _ _), rfl, h⟩
def F_X7_valueHere (s : ST) (p : Int) : Int := (if p = 0 then s.1 46 8 else (if p = 1 then s.1 46 9 else 0))
theorem w_X7_valueHere {s : ST} {p : Int} : C_X7_valueHere s p (fun s' v => s' = s ∧ v = F_X7_valueHere s p) := by
  refine s_X7_valueHere (fun hA hrp => ?_)
  refine ⟨fun e0 => ?_, fun e0 => ?_⟩
  · refine ⟨fun e1 => ?_, fun e1 => ?_⟩
    · exact ⟨rfl, by unfold F_X7_valueHere; rw [if_neg e0, if_neg e1]⟩
    · exact ⟨rfl, by unfold F_X7_valueHere; rw [if_neg e0, if_pos e1]⟩
  · exact ⟨rfl, by unfold F_X7_valueHere; rw [if_pos e0]⟩
theorem p_X7_valueHere {s : ST} {p : Int} : RA s → R32 p → q_met mX7_valueHere (qs layX s) [.ref 46, .int (Int32.ofInt p)] (fun σ r => R32 (F_X7_valueHere s p) ∧ σ = qs layX s ∧ r = some (.int (Int32.ofInt (F_X7_valueHere s p)))) := fun hA hrp => q_met.mono ((w_X7_valueHere).1 hA hrp) (by
  rintro _ _ ⟨s1, v1, rfl, h1, h2, rfl, rfl, rfl⟩
  exact ⟨h2, rfl, rfl⟩)
theorem eX7_beginPlace_0 : decode cX7_beginPlace 0 = .ok (.aload_n 0, 1) := by decide +kernel
theorem eX7_beginPlace_1 : decode cX7_beginPlace 1 = .ok (.invokevirtual 137, 3) := by decide +kernel
theorem eX7_beginPlace_4 : decode cX7_beginPlace 4 = .ok (.istore_n 2, 1) := by decide +kernel
theorem eX7_beginPlace_5 : decode cX7_beginPlace 5 = .ok (.aload_n 0, 1) := by decide +kernel
theorem eX7_beginPlace_6 : decode cX7_beginPlace 6 = .ok (.getfield 33, 3) := by decide +kernel
theorem eX7_beginPlace_9 : decode cX7_beginPlace 9 = .ok (.iload_n 1, 1) := by decide +kernel
theorem eX7_beginPlace_10 : decode cX7_beginPlace 10 = .ok (.invokevirtual 122, 3) := by decide +kernel
theorem eX7_beginPlace_13 : decode cX7_beginPlace 13 = .ok (.istore_n 3, 1) := by decide +kernel
theorem eX7_beginPlace_14 : decode cX7_beginPlace 14 = .ok (.iload_n 3, 1) := by decide +kernel
theorem eX7_beginPlace_15 : decode cX7_beginPlace 15 = .ok (.ifCond .eq 14, 3) := by decide +kernel
theorem eX7_beginPlace_18 : decode cX7_beginPlace 18 = .ok (.aload_n 0, 1) := by decide +kernel
theorem eX7_beginPlace_19 : decode cX7_beginPlace 19 = .ok (.getfield 23, 3) := by decide +kernel
theorem eX7_beginPlace_22 : decode cX7_beginPlace 22 = .ok (.iload_n 1, 1) := by decide +kernel
theorem eX7_beginPlace_23 : decode cX7_beginPlace 23 = .ok (.iaload, 1) := by decide +kernel
theorem eX7_beginPlace_24 : decode cX7_beginPlace 24 = .ok (.iconst 1, 1) := by decide +kernel
theorem eX7_beginPlace_25 : decode cX7_beginPlace 25 = .ok (.iadd, 1) := by decide +kernel
theorem eX7_beginPlace_26 : decode cX7_beginPlace 26 = .ok (.goto 4, 3) := by decide +kernel
theorem eX7_beginPlace_29 : decode cX7_beginPlace 29 = .ok (.iconst 0, 1) := by decide +kernel
theorem eX7_beginPlace_30 : decode cX7_beginPlace 30 = .ok (.istore 4, 2) := by decide +kernel
theorem eX7_beginPlace_32 : decode cX7_beginPlace 32 = .ok (.iload_n 2, 1) := by decide +kernel
theorem eX7_beginPlace_33 : decode cX7_beginPlace 33 = .ok (.iconst (-1), 1) := by decide +kernel
theorem eX7_beginPlace_34 : decode cX7_beginPlace 34 = .ok (.if_icmp .eq 22, 3) := by decide +kernel
theorem eX7_beginPlace_37 : decode cX7_beginPlace 37 = .ok (.iload 4, 2) := by decide +kernel
theorem eX7_beginPlace_39 : decode cX7_beginPlace 39 = .ok (.bipush 20, 2) := by decide +kernel
theorem eX7_beginPlace_41 : decode cX7_beginPlace 41 = .ok (.if_icmp .gt 15, 3) := by decide +kernel
theorem eX7_beginPlace_44 : decode cX7_beginPlace 44 = .ok (.aload_n 0, 1) := by decide +kernel
theorem eX7_beginPlace_45 : decode cX7_beginPlace 45 = .ok (.getfield 33, 3) := by decide +kernel
theorem eX7_beginPlace_48 : decode cX7_beginPlace 48 = .ok (.getfield 140, 3) := by decide +kernel
theorem eX7_beginPlace_51 : decode cX7_beginPlace 51 = .ok (.bipush 40, 2) := by decide +kernel
theorem eX7_beginPlace_53 : decode cX7_beginPlace 53 = .ok (.if_icmp .lt 9, 3) := by decide +kernel
theorem eX7_beginPlace_56 : decode cX7_beginPlace 56 = .ok (.aload_n 0, 1) := by decide +kernel
theorem eX7_beginPlace_57 : decode cX7_beginPlace 57 = .ok (.invokevirtual 98, 3) := by decide +kernel
theorem eX7_beginPlace_60 : decode cX7_beginPlace 60 = .ok (.iconst (-1), 1) := by decide +kernel
theorem eX7_beginPlace_61 : decode cX7_beginPlace 61 = .ok (.ireturn, 1) := by decide +kernel
theorem eX7_beginPlace_62 : decode cX7_beginPlace 62 = .ok (.aload_n 0, 1) := by decide +kernel
theorem eX7_beginPlace_63 : decode cX7_beginPlace 63 = .ok (.getfield 33, 3) := by decide +kernel
theorem eX7_beginPlace_66 : decode cX7_beginPlace 66 = .ok (.iload_n 1, 1) := by decide +kernel
theorem eX7_beginPlace_67 : decode cX7_beginPlace 67 = .ok (.iload_n 3, 1) := by decide +kernel
theorem eX7_beginPlace_68 : decode cX7_beginPlace 68 = .ok (.ifCond .eq 12, 3) := by decide +kernel
theorem eX7_beginPlace_71 : decode cX7_beginPlace 71 = .ok (.aload_n 0, 1) := by decide +kernel
theorem eX7_beginPlace_72 : decode cX7_beginPlace 72 = .ok (.getfield 19, 3) := by decide +kernel
theorem eX7_beginPlace_75 : decode cX7_beginPlace 75 = .ok (.iload_n 1, 1) := by decide +kernel
theorem eX7_beginPlace_76 : decode cX7_beginPlace 76 = .ok (.iaload, 1) := by decide +kernel
theorem eX7_beginPlace_77 : decode cX7_beginPlace 77 = .ok (.goto 4, 3) := by decide +kernel
theorem eX7_beginPlace_80 : decode cX7_beginPlace 80 = .ok (.iconst 0, 1) := by decide +kernel
theorem eX7_beginPlace_81 : decode cX7_beginPlace 81 = .ok (.aload_n 0, 1) := by decide +kernel
theorem eX7_beginPlace_82 : decode cX7_beginPlace 82 = .ok (.getfield 33, 3) := by decide +kernel
theorem eX7_beginPlace_85 : decode cX7_beginPlace 85 = .ok (.getfield 95, 3) := by decide +kernel
theorem eX7_beginPlace_88 : decode cX7_beginPlace 88 = .ok (.iconst 1, 1) := by decide +kernel
theorem eX7_beginPlace_89 : decode cX7_beginPlace 89 = .ok (.isub, 1) := by decide +kernel
theorem eX7_beginPlace_90 : decode cX7_beginPlace 90 = .ok (.invokevirtual 143, 3) := by decide +kernel
theorem eX7_beginPlace_93 : decode cX7_beginPlace 93 = .ok (.istore 5, 2) := by decide +kernel
theorem eX7_beginPlace_95 : decode cX7_beginPlace 95 = .ok (.aload_n 0, 1) := by decide +kernel
theorem eX7_beginPlace_96 : decode cX7_beginPlace 96 = .ok (.getfield 33, 3) := by decide +kernel
theorem eX7_beginPlace_99 : decode cX7_beginPlace 99 = .ok (.iload 5, 2) := by decide +kernel
theorem eX7_beginPlace_101 : decode cX7_beginPlace 101 = .ok (.invokevirtual 122, 3) := by decide +kernel
theorem eX7_beginPlace_104 : decode cX7_beginPlace 104 = .ok (.ifCond .ne 9, 3) := by decide +kernel
theorem eX7_beginPlace_107 : decode cX7_beginPlace 107 = .ok (.aload_n 0, 1) := by decide +kernel
theorem eX7_beginPlace_108 : decode cX7_beginPlace 108 = .ok (.invokevirtual 98, 3) := by decide +kernel
theorem eX7_beginPlace_111 : decode cX7_beginPlace 111 = .ok (.iconst (-1), 1) := by decide +kernel
theorem eX7_beginPlace_112 : decode cX7_beginPlace 112 = .ok (.ireturn, 1) := by decide +kernel
theorem eX7_beginPlace_113 : decode cX7_beginPlace 113 = .ok (.iload_n 3, 1) := by decide +kernel
theorem eX7_beginPlace_114 : decode cX7_beginPlace 114 = .ok (.ifCond .eq 13, 3) := by decide +kernel
theorem eX7_beginPlace_117 : decode cX7_beginPlace 117 = .ok (.aload_n 0, 1) := by decide +kernel
theorem eX7_beginPlace_118 : decode cX7_beginPlace 118 = .ok (.getfield 19, 3) := by decide +kernel
theorem eX7_beginPlace_121 : decode cX7_beginPlace 121 = .ok (.iload_n 1, 1) := by decide +kernel
theorem eX7_beginPlace_122 : decode cX7_beginPlace 122 = .ok (.dup2, 1) := by decide +kernel
theorem eX7_beginPlace_123 : decode cX7_beginPlace 123 = .ok (.iaload, 1) := by decide +kernel
theorem eX7_beginPlace_124 : decode cX7_beginPlace 124 = .ok (.iconst 1, 1) := by decide +kernel
theorem eX7_beginPlace_125 : decode cX7_beginPlace 125 = .ok (.iadd, 1) := by decide +kernel
theorem eX7_beginPlace_126 : decode cX7_beginPlace 126 = .ok (.iastore, 1) := by decide +kernel
theorem eX7_beginPlace_127 : decode cX7_beginPlace 127 = .ok (.aload_n 0, 1) := by decide +kernel
theorem eX7_beginPlace_128 : decode cX7_beginPlace 128 = .ok (.getfield 19, 3) := by decide +kernel
theorem eX7_beginPlace_131 : decode cX7_beginPlace 131 = .ok (.iload 5, 2) := by decide +kernel
theorem eX7_beginPlace_133 : decode cX7_beginPlace 133 = .ok (.iconst 0, 1) := by decide +kernel
theorem eX7_beginPlace_134 : decode cX7_beginPlace 134 = .ok (.iastore, 1) := by decide +kernel
theorem eX7_beginPlace_135 : decode cX7_beginPlace 135 = .ok (.aload_n 0, 1) := by decide +kernel
theorem eX7_beginPlace_136 : decode cX7_beginPlace 136 = .ok (.getfield 23, 3) := by decide +kernel
theorem eX7_beginPlace_139 : decode cX7_beginPlace 139 = .ok (.iload 5, 2) := by decide +kernel
theorem eX7_beginPlace_141 : decode cX7_beginPlace 141 = .ok (.iload 4, 2) := by decide +kernel
theorem eX7_beginPlace_143 : decode cX7_beginPlace 143 = .ok (.iastore, 1) := by decide +kernel
theorem eX7_beginPlace_144 : decode cX7_beginPlace 144 = .ok (.aload_n 0, 1) := by decide +kernel
theorem eX7_beginPlace_145 : decode cX7_beginPlace 145 = .ok (.getfield 33, 3) := by decide +kernel
theorem eX7_beginPlace_148 : decode cX7_beginPlace 148 = .ok (.getfield 128, 3) := by decide +kernel
theorem eX7_beginPlace_151 : decode cX7_beginPlace 151 = .ok (.iload 5, 2) := by decide +kernel
theorem eX7_beginPlace_153 : decode cX7_beginPlace 153 = .ok (.iload_n 2, 1) := by decide +kernel
theorem eX7_beginPlace_154 : decode cX7_beginPlace 154 = .ok (.iastore, 1) := by decide +kernel
theorem eX7_beginPlace_155 : decode cX7_beginPlace 155 = .ok (.aload_n 0, 1) := by decide +kernel
theorem eX7_beginPlace_156 : decode cX7_beginPlace 156 = .ok (.getfield 33, 3) := by decide +kernel
theorem eX7_beginPlace_159 : decode cX7_beginPlace 159 = .ok (.getfield 147, 3) := by decide +kernel
theorem eX7_beginPlace_162 : decode cX7_beginPlace 162 = .ok (.iload 5, 2) := by decide +kernel
theorem eX7_beginPlace_164 : decode cX7_beginPlace 164 = .ok (.aload_n 0, 1) := by decide +kernel
theorem eX7_beginPlace_165 : decode cX7_beginPlace 165 = .ok (.getfield 81, 3) := by decide +kernel
theorem eX7_beginPlace_168 : decode cX7_beginPlace 168 = .ok (.iastore, 1) := by decide +kernel
theorem eX7_beginPlace_169 : decode cX7_beginPlace 169 = .ok (.aload_n 0, 1) := by decide +kernel
theorem eX7_beginPlace_170 : decode cX7_beginPlace 170 = .ok (.getfield 33, 3) := by decide +kernel
theorem eX7_beginPlace_173 : decode cX7_beginPlace 173 = .ok (.getfield 150, 3) := by decide +kernel
theorem eX7_beginPlace_176 : decode cX7_beginPlace 176 = .ok (.iload 5, 2) := by decide +kernel
theorem eX7_beginPlace_178 : decode cX7_beginPlace 178 = .ok (.aload_n 0, 1) := by decide +kernel
theorem eX7_beginPlace_179 : decode cX7_beginPlace 179 = .ok (.iload_n 2, 1) := by decide +kernel
theorem eX7_beginPlace_180 : decode cX7_beginPlace 180 = .ok (.invokevirtual 153, 3) := by decide +kernel
theorem eX7_beginPlace_183 : decode cX7_beginPlace 183 = .ok (.iastore, 1) := by decide +kernel
theorem eX7_beginPlace_184 : decode cX7_beginPlace 184 = .ok (.iload 5, 2) := by decide +kernel
theorem eX7_beginPlace_186 : decode cX7_beginPlace 186 = .ok (.ireturn, 1) := by decide +kernel
def C_X7_beginPlace (s : ST) (p : Int) (Q : ST → Int → Prop) : Prop := bx <| RA s → R32 p → q_met mX7_beginPlace (qs layX s) [.ref 46, .int (Int32.ofInt p)] (PI layX Q)
theorem C_X7_beginPlace.mono {s : ST} {p : Int} {Q Q' : ST → Int → Prop} (h : C_X7_beginPlace s p Q) (hq : ∀ s v, Q s v → Q' s v) : C_X7_beginPlace s p Q' := ⟨fun hA hrp => q_met.mono (h.1 hA hrp) (fun _ _ => PI.mono hq), trivial⟩
def K_X7_beginPlace_127 (s : ST) (a2 : Int) (a4 : Int) (a5 : Int) (Q : ST → Int → Prop) : Prop := bx <| RA s → R32 a2 → R32 a4 → R32 a5 → q_K mX7_beginPlace (qs layX s) 0 0 127 [(0, .ref 46), (2, .int (Int32.ofInt a2)), (4, .int (Int32.ofInt a4)), (5, .int (Int32.ofInt a5))] [] (q_fin mX7_beginPlace (PI layX Q))
def K_X7_beginPlace_81 (s : ST) (a1 : Int) (a2 : Int) (a3 : Int) (a4 : Int) (t1 : Int) (t2 : Int) (Q : ST → Int → Prop) : Prop := bx <| RA s → R32 a1 → R32 a2 → R32 a3 → R32 a4 → R32 t1 → R32 t2 → q_K mX7_beginPlace (qs layX s) 0 0 81 [(0, .ref 46), (1, .int (Int32.ofInt a1)), (2, .int (Int32.ofInt a2)), (3, .int (Int32.ofInt a3)), (4, .int (Int32.ofInt a4))] [.int (Int32.ofInt t2), .int (Int32.ofInt t1), .ref 18] (q_fin mX7_beginPlace (PI layX Q))
def K_X7_beginPlace_56 (s : ST) (Q : ST → Int → Prop) : Prop := bx <| RA s → q_K mX7_beginPlace (qs layX s) 0 0 56 [(0, .ref 46)] [] (q_fin mX7_beginPlace (PI layX Q))
def K_X7_beginPlace_30 (s : ST) (a1 : Int) (a2 : Int) (a3 : Int) (t0 : Int) (Q : ST → Int → Prop) : Prop := bx <| RA s → R32 a1 → R32 a2 → R32 a3 → R32 t0 → q_K mX7_beginPlace (qs layX s) 0 0 30 [(0, .ref 46), (1, .int (Int32.ofInt a1)), (2, .int (Int32.ofInt a2)), (3, .int (Int32.ofInt a3))] [.int (Int32.ofInt t0)] (q_fin mX7_beginPlace (PI layX Q))
set_option maxRecDepth 20000 in
theorem s_X7_beginPlace_127 {s : ST} {a2 : Int} {a4 : Int} {a5 : Int} {Q : ST → Int → Prop} (h : RA s → R32 a2 → R32 a4 → R32 a5 → (((0 : Int) ≤ a5 ∧ a5 < 40) ∧ Q (ui (ui (ui (ui (ui s 48 a5 0) 49 a5 a4) 21 a5 a2) 22 a5 (s.1 46 6)) 24 a5 (F_X7_valueHere (ui (ui (ui (ui s 48 a5 0) 49 a5 a4) 21 a5 a2) 22 a5 (s.1 46 6)) a2)) a5)) : K_X7_beginPlace_127 s a2 a4 a5 Q := by
  refine ⟨?_, trivial⟩
  intro hA hra2 hra4 hra5
  have h := h hA hra2 hra4 hra5
  refine q_aload_n eX7_beginPlace_127 rfl ?_
  refine q_getR (c := 7) (n := 0) (k := 12) (a := 48) eX7_beginPlace_128 rfl (by decide) (by decide) fX7_19 rfl rfl ?_
  refine q_iload eX7_beginPlace_131 rfl ?_
  refine q_ic (v := Int32.ofInt 0) eX7_beginPlace_133 rfl ?_
  have f1 := h.1
  have h := h.2
  refine z_iast (n := 40) eX7_beginPlace_134 rfl (ofz hra5) f1  ?_
  refine q_aload_n eX7_beginPlace_135 rfl ?_
  refine q_getR (c := 7) (n := 0) (k := 13) (a := 49) eX7_beginPlace_136 rfl (by decide) (by decide) fX7_23 rfl rfl ?_
  refine q_iload eX7_beginPlace_139 rfl ?_
  refine q_iload eX7_beginPlace_141 rfl ?_
  refine z_iast (n := 40) eX7_beginPlace_143 rfl (ofz hra5) f1  ?_
  refine q_aload_n eX7_beginPlace_144 rfl ?_
  refine q_getR (c := 7) (n := 0) (k := 10) (a := 18) eX7_beginPlace_145 rfl (by decide) (by decide) fX7_33 rfl rfl ?_
  refine q_getR (c := 9) (n := 0) (k := 5) (a := 21) eX7_beginPlace_148 rfl (by decide) (by decide) fX7_128 rfl rfl ?_
  refine q_iload eX7_beginPlace_151 rfl ?_
  refine q_iload_n eX7_beginPlace_153 rfl ?_
  refine z_iast (n := 40) eX7_beginPlace_154 rfl (ofz hra5) f1  ?_
  refine q_aload_n eX7_beginPlace_155 rfl ?_
  refine q_getR (c := 7) (n := 0) (k := 10) (a := 18) eX7_beginPlace_156 rfl (by decide) (by decide) fX7_33 rfl rfl ?_
  refine q_getR (c := 9) (n := 0) (k := 6) (a := 22) eX7_beginPlace_159 rfl (by decide) (by decide) fX7_147 rfl rfl ?_
  refine q_iload eX7_beginPlace_162 rfl ?_
  refine q_aload_n eX7_beginPlace_164 rfl ?_
  refine q_getf (c := 7) (n := 0) (k := 6) (v := .int (Int32.ofInt (s.1 46 6))) eX7_beginPlace_165 rfl (by decide) (by decide) fX7_81 rfl ?_
  refine z_iast (n := 40) eX7_beginPlace_168 rfl (ofz hra5) f1  ?_
  refine q_aload_n eX7_beginPlace_169 rfl ?_
  refine q_getR (c := 7) (n := 0) (k := 10) (a := 18) eX7_beginPlace_170 rfl (by decide) (by decide) fX7_33 rfl rfl ?_
  refine q_getR (c := 9) (n := 0) (k := 8) (a := 24) eX7_beginPlace_173 rfl (by decide) (by decide) fX7_150 rfl rfl ?_
  refine q_iload eX7_beginPlace_176 rfl ?_
  refine q_aload_n eX7_beginPlace_178 rfl ?_
  refine q_iload_n eX7_beginPlace_179 rfl ?_
  refine q_V1 (ci := 7) (n := 0) eX7_beginPlace_180 DX7_valueHere lX7_153 rfl (by decide) rfl rfl rfl rfl (p_X7_valueHere (ra_ui (ra_ui (ra_ui (ra_ui hA (r32l rfl)) hra4) hra2) (hA _ _)) hra2) ?_
  rintro _ _ ⟨r2, rfl, rfl⟩
  refine z_iast (n := 40) eX7_beginPlace_183 rfl (ofz hra5) f1  ?_
  refine q_iload eX7_beginPlace_184 rfl ?_
  exact q_iret eX7_beginPlace_186 rfl ⟨_, _, rfl, (ra_ui (ra_ui (ra_ui (ra_ui (ra_ui hA (r32l rfl)) hra4) hra2) (hA _ _)) r2), hra5, rfl, h⟩
set_option maxRecDepth 20000 in
theorem s_X7_beginPlace_81 {s : ST} {a1 : Int} {a2 : Int} {a3 : Int} {a4 : Int} {t1 : Int} {t2 : Int} {Q : ST → Int → Prop} (h : RA s → R32 a1 → R32 a2 → R32 a3 → R32 a4 → R32 t1 → R32 t2 → (R32 (s.1 18 0 - 1) ∧ (C_X9_add 18 s t1 t2 (s.1 18 0 - 1) (fun s2 v2 => (((¬ v2 < 0 ∧ (¬ s2.1 18 1 ≤ v2 ∧ ¬ 40 ≤ v2)) → ((a3 = 0 → K_X7_beginPlace_127 s2 a2 a4 v2 Q) ∧ (¬ a3 = 0 → (((0 : Int) ≤ a1 ∧ a1 < 40) ∧ (R32 (s2.1 48 a1 + 1) ∧ K_X7_beginPlace_127 (ui s2 48 a1 (s2.1 48 a1 + 1)) a2 a4 v2 Q))))) ∧ (¬ (¬ v2 < 0 ∧ (¬ s2.1 18 1 ≤ v2 ∧ ¬ 40 ≤ v2)) → (C_X7_refuseToken s2 (fun s6 => Q s6 (-1))))))))) : K_X7_beginPlace_81 s a1 a2 a3 a4 t1 t2 Q := by
  refine ⟨?_, trivial⟩
  intro hA hra1 hra2 hra3 hra4 hrt1 hrt2
  have h := h hA hra1 hra2 hra3 hra4 hrt1 hrt2
  refine q_aload_n eX7_beginPlace_81 rfl ?_
  refine q_getR (c := 7) (n := 0) (k := 10) (a := 18) eX7_beginPlace_82 rfl (by decide) (by decide) fX7_33 rfl rfl ?_
  refine q_getf (c := 9) (n := 0) (k := 0) (v := .int (Int32.ofInt (s.1 18 0))) eX7_beginPlace_85 rfl (by decide) (by decide) fX7_95 rfl ?_
  refine q_ic (v := Int32.ofInt 1) eX7_beginPlace_88 rfl ?_
  refine z_isub eX7_beginPlace_89 ?_
  have r1 := h.1
  have h := h.2
  refine q_V3 (ci := 9) (n := 0) eX7_beginPlace_90 DX9_add lX7_143 rfl (by decide) rfl rfl rfl rfl (h.1 (by decide) hA hrt1 hrt2 r1) ?_
  rintro _ _ ⟨s2, v2, rfl, hA2, r2, rfl, h⟩
  refine q_istore eX7_beginPlace_93 (Nat.le_of_ble_eq_true rfl) ?_
  refine q_aload_n eX7_beginPlace_95 rfl ?_
  refine q_getR (c := 7) (n := 0) (k := 10) (a := 18) eX7_beginPlace_96 rfl (by decide) (by decide) fX7_33 rfl rfl ?_
  refine q_iload eX7_beginPlace_99 rfl ?_
  refine q_V1 (ci := 9) (n := 0) eX7_beginPlace_101 DX9_has lX7_122 rfl (by decide) rfl rfl rfl rfl (p_X9_has (by decide) hA2 r2) ?_
  rintro _ _ ⟨b3, rfl, rfl⟩
  refine q_iz_ne (tgt := 113) (a := (F_X9_has 18 s2 v2)) eX7_beginPlace_104 (by decide) (ofz (r01 b3)) (fun c104 => ?_) (fun c104 => ?_)
  · have h := h.1 (n_X9_has.mp c104)
    refine q_iload_n eX7_beginPlace_113 rfl ?_
    refine q_iz_eq (tgt := 127) (a := a3) eX7_beginPlace_114 (by decide) (ofz hra3) (fun c114 => ?_) (fun c114 => ?_)
    · have h := h.1 c114
      exact q_subL rfl (h.1 hA2 hra2 hra4 r2)
    · have h := h.2 c114
      refine q_aload_n eX7_beginPlace_117 rfl ?_
      refine q_getR (c := 7) (n := 0) (k := 12) (a := 48) eX7_beginPlace_118 rfl (by decide) (by decide) fX7_19 rfl rfl ?_
      refine q_iload_n eX7_beginPlace_121 rfl ?_
      refine q_dup2 eX7_beginPlace_122 rfl rfl ?_
      have f4 := h.1
      have h := h.2
      refine z_iald (n := 40) eX7_beginPlace_123 rfl (ofz hra1) f4 ?_
      refine q_topI (v := Int32.ofInt (s2.1 48 a1)) rfl ?_
      refine q_ic (v := Int32.ofInt 1) eX7_beginPlace_124 rfl ?_
      refine z_iadd eX7_beginPlace_125 ?_
      have r5 := h.1
      have h := h.2
      refine z_iast (n := 40) eX7_beginPlace_126 rfl (ofz hra1) f4  ?_
      exact q_subL rfl (h.1 (ra_ui hA2 r5) hra2 hra4 r2)
  · have h := h.2 (fun q => n_X9_has.mpr q c104)
    refine q_aload_n eX7_beginPlace_107 rfl ?_
    refine q_V0 (ci := 7) (n := 0) eX7_beginPlace_108 DX7_refuseToken lX7_98 rfl (by decide) rfl rfl rfl rfl (h.1 hA2) ?_
    rintro _ _ ⟨s6, rfl, hA6, rfl, h⟩
    refine q_ic (v := Int32.ofInt (-1)) eX7_beginPlace_111 rfl ?_
    exact q_iret eX7_beginPlace_112 rfl ⟨_, _, rfl, hA6, (r32l rfl), rfl, h⟩
set_option maxRecDepth 20000 in
theorem s_X7_beginPlace_56 {s : ST} {Q : ST → Int → Prop} (h : RA s → (C_X7_refuseToken s (fun s1 => Q s1 (-1)))) : K_X7_beginPlace_56 s Q := by
  refine ⟨?_, trivial⟩
  intro hA
  have h := h hA
  refine q_aload_n eX7_beginPlace_56 rfl ?_
  refine q_V0 (ci := 7) (n := 0) eX7_beginPlace_57 DX7_refuseToken lX7_98 rfl (by decide) rfl rfl rfl rfl (h.1 hA) ?_
  rintro _ _ ⟨s1, rfl, hA1, rfl, h⟩
  refine q_ic (v := Int32.ofInt (-1)) eX7_beginPlace_60 rfl ?_
  exact q_iret eX7_beginPlace_61 rfl ⟨_, _, rfl, hA1, (r32l rfl), rfl, h⟩
set_option maxRecDepth 20000 in
theorem s_X7_beginPlace_30 {s : ST} {a1 : Int} {a2 : Int} {a3 : Int} {t0 : Int} {Q : ST → Int → Prop} (h : RA s → R32 a1 → R32 a2 → R32 a3 → R32 t0 → ((a2 = (-1) → K_X7_beginPlace_56 s Q) ∧ (¬ a2 = (-1) → ((20 < t0 → K_X7_beginPlace_56 s Q) ∧ (¬ 20 < t0 → ((s.1 18 1 < 40 → ((a3 = 0 → K_X7_beginPlace_81 s a1 a2 a3 t0 a1 0 Q) ∧ (¬ a3 = 0 → (((0 : Int) ≤ a1 ∧ a1 < 40) ∧ K_X7_beginPlace_81 s a1 a2 a3 t0 a1 (s.1 48 a1) Q)))) ∧ (¬ s.1 18 1 < 40 → K_X7_beginPlace_56 s Q))))))) : K_X7_beginPlace_30 s a1 a2 a3 t0 Q := by
  refine ⟨?_, trivial⟩
  intro hA hra1 hra2 hra3 hrt0
  have h := h hA hra1 hra2 hra3 hrt0
  refine q_istore eX7_beginPlace_30 (Nat.le_of_ble_eq_true rfl) ?_
  refine q_iload_n eX7_beginPlace_32 rfl ?_
  refine q_ic (v := Int32.ofInt (-1)) eX7_beginPlace_33 rfl ?_
  refine q_cz_eq (tgt := 56) (a := a2) (b := (-1)) eX7_beginPlace_34 (by decide) (ofz hra2) (ofz (r32l rfl)) (fun c34 => ?_) (fun c34 => ?_)
  · have h := h.1 c34
    exact q_subL rfl (h.1 hA)
  · have h := h.2 c34
    refine q_iload eX7_beginPlace_37 rfl ?_
    refine q_bi (v := Int32.ofInt 20) eX7_beginPlace_39 rfl ?_
    refine q_cz_gt (tgt := 56) (a := t0) (b := 20) eX7_beginPlace_41 (by decide) (ofz hrt0) (ofz (r32l rfl)) (fun c41 => ?_) (fun c41 => ?_)
    · have h := h.1 c41
      exact q_subL rfl (h.1 hA)
    · have h := h.2 c41
      refine q_aload_n eX7_beginPlace_44 rfl ?_
      refine q_getR (c := 7) (n := 0) (k := 10) (a := 18) eX7_beginPlace_45 rfl (by decide) (by decide) fX7_33 rfl rfl ?_
      refine q_getf (c := 9) (n := 0) (k := 1) (v := .int (Int32.ofInt (s.1 18 1))) eX7_beginPlace_48 rfl (by decide) (by decide) fX7_140 rfl ?_
      refine q_bi (v := Int32.ofInt 40) eX7_beginPlace_51 rfl ?_
      refine q_cz_lt (tgt := 62) (a := s.1 18 1) (b := 40) eX7_beginPlace_53 (by decide) (ofz (hA _ _)) (ofz (r32l rfl)) (fun c53 => ?_) (fun c53 => ?_)
      · have h := h.1 c53
        refine q_aload_n eX7_beginPlace_62 rfl ?_
        refine q_getR (c := 7) (n := 0) (k := 10) (a := 18) eX7_beginPlace_63 rfl (by decide) (by decide) fX7_33 rfl rfl ?_
        refine q_iload_n eX7_beginPlace_66 rfl ?_
        refine q_iload_n eX7_beginPlace_67 rfl ?_
        refine q_iz_eq (tgt := 80) (a := a3) eX7_beginPlace_68 (by decide) (ofz hra3) (fun c68 => ?_) (fun c68 => ?_)
        · have h := h.1 c68
          refine q_ic (v := Int32.ofInt 0) eX7_beginPlace_80 rfl ?_
          exact q_subL rfl (h.1 hA hra1 hra2 hra3 hrt0 hra1 (r32l rfl))
        · have h := h.2 c68
          refine q_aload_n eX7_beginPlace_71 rfl ?_
          refine q_getR (c := 7) (n := 0) (k := 12) (a := 48) eX7_beginPlace_72 rfl (by decide) (by decide) fX7_19 rfl rfl ?_
          refine q_iload_n eX7_beginPlace_75 rfl ?_
          have f1 := h.1
          have h := h.2
          refine z_iald (n := 40) eX7_beginPlace_76 rfl (ofz hra1) f1 ?_
          refine q_topI (v := Int32.ofInt (s.1 48 a1)) rfl ?_
          refine q_goto (tgt := 81) eX7_beginPlace_77 (by decide) ?_
          exact q_subL rfl (h.1 hA hra1 hra2 hra3 hrt0 hra1 (hA _ _))
      · have h := h.2 c53
        exact q_subL rfl (h.1 hA)
set_option maxRecDepth 20000 in
theorem s_X7_beginPlace {s : ST} {p : Int} {Q : ST → Int → Prop} (h : RA s → R32 p → ((¬ (¬ p < 0 ∧ (¬ s.1 18 1 ≤ p ∧ ¬ 40 ≤ p)) → K_X7_beginPlace_30 s p (F_X7_sortHere s) (F_X9_has 18 s p) 0 Q) ∧ ((¬ p < 0 ∧ (¬ s.1 18 1 ≤ p ∧ ¬ 40 ≤ p)) → (((0 : Int) ≤ p ∧ p < 40) ∧ (R32 (s.1 49 p + 1) ∧ K_X7_beginPlace_30 s p (F_X7_sortHere s) (F_X9_has 18 s p) (s.1 49 p + 1) Q))))) : C_X7_beginPlace s p Q := by
  refine ⟨?_, trivial⟩
  intro hA hrp
  have h := h hA hrp
  refine q_enter (by decide) (Nat.le_of_ble_eq_true rfl) ?_
  refine q_aload_n eX7_beginPlace_0 rfl ?_
  refine q_V0 (ci := 7) (n := 0) eX7_beginPlace_1 DX7_sortHere lX7_137 rfl (by decide) rfl rfl rfl rfl (p_X7_sortHere hA) ?_
  rintro _ _ ⟨r1, rfl, rfl⟩
  refine q_istore_n eX7_beginPlace_4 (Nat.le_of_ble_eq_true rfl) ?_
  refine q_aload_n eX7_beginPlace_5 rfl ?_
  refine q_getR (c := 7) (n := 0) (k := 10) (a := 18) eX7_beginPlace_6 rfl (by decide) (by decide) fX7_33 rfl rfl ?_
  refine q_iload_n eX7_beginPlace_9 rfl ?_
  refine q_V1 (ci := 9) (n := 0) eX7_beginPlace_10 DX9_has lX7_122 rfl (by decide) rfl rfl rfl rfl (p_X9_has (by decide) hA hrp) ?_
  rintro _ _ ⟨b2, rfl, rfl⟩
  refine q_istore_n eX7_beginPlace_13 (Nat.le_of_ble_eq_true rfl) ?_
  refine q_iload_n eX7_beginPlace_14 rfl ?_
  refine q_iz_eq (tgt := 29) (a := (F_X9_has 18 s p)) eX7_beginPlace_15 (by decide) (ofz (r01 b2)) (fun c15 => ?_) (fun c15 => ?_)
  · have h := h.1 (fun q => n_X9_has.mpr q c15)
    refine q_ic (v := Int32.ofInt 0) eX7_beginPlace_29 rfl ?_
    exact q_subL rfl (h.1 hA hrp r1 (r01 b2) (r32l rfl))
  · have h := h.2 (n_X9_has.mp c15)
    refine q_aload_n eX7_beginPlace_18 rfl ?_
    refine q_getR (c := 7) (n := 0) (k := 13) (a := 49) eX7_beginPlace_19 rfl (by decide) (by decide) fX7_23 rfl rfl ?_
    refine q_iload_n eX7_beginPlace_22 rfl ?_
    have f3 := h.1
    have h := h.2
    refine z_iald (n := 40) eX7_beginPlace_23 rfl (ofz hrp) f3 ?_
    refine q_topI (v := Int32.ofInt (s.1 49 p)) rfl ?_
    refine q_ic (v := Int32.ofInt 1) eX7_beginPlace_24 rfl ?_
    refine z_iadd eX7_beginPlace_25 ?_
    have r4 := h.1
    have h := h.2
    refine q_goto (tgt := 30) eX7_beginPlace_26 (by decide) ?_
    exact q_subL rfl (h.1 hA hrp r1 (r01 b2) r4)
theorem eX7_findTarget_0 : decode cX7_findTarget 0 = .ok (.aload_n 0, 1) := by decide +kernel
theorem eX7_findTarget_1 : decode cX7_findTarget 1 = .ok (.getfield 33, 3) := by decide +kernel
theorem eX7_findTarget_4 : decode cX7_findTarget 4 = .ok (.iload_n 1, 1) := by decide +kernel
theorem eX7_findTarget_5 : decode cX7_findTarget 5 = .ok (.invokevirtual 122, 3) := by decide +kernel
theorem eX7_findTarget_8 : decode cX7_findTarget 8 = .ok (.ifCond .ne 5, 3) := by decide +kernel
theorem eX7_findTarget_11 : decode cX7_findTarget 11 = .ok (.iconst 0, 1) := by decide +kernel
theorem eX7_findTarget_12 : decode cX7_findTarget 12 = .ok (.ireturn, 1) := by decide +kernel
theorem eX7_findTarget_13 : decode cX7_findTarget 13 = .ok (.aload_n 0, 1) := by decide +kernel
theorem eX7_findTarget_14 : decode cX7_findTarget 14 = .ok (.getfield 33, 3) := by decide +kernel
theorem eX7_findTarget_17 : decode cX7_findTarget 17 = .ok (.iload_n 1, 1) := by decide +kernel
theorem eX7_findTarget_18 : decode cX7_findTarget 18 = .ok (.aload_n 0, 1) := by decide +kernel
theorem eX7_findTarget_19 : decode cX7_findTarget 19 = .ok (.getfield 26, 3) := by decide +kernel
theorem eX7_findTarget_22 : decode cX7_findTarget 22 = .ok (.invokevirtual 168, 3) := by decide +kernel
theorem eX7_findTarget_25 : decode cX7_findTarget 25 = .ok (.istore_n 2, 1) := by decide +kernel
theorem eX7_findTarget_26 : decode cX7_findTarget 26 = .ok (.iconst 0, 1) := by decide +kernel
theorem eX7_findTarget_27 : decode cX7_findTarget 27 = .ok (.istore_n 3, 1) := by decide +kernel
theorem eX7_findTarget_28 : decode cX7_findTarget 28 = .ok (.iload_n 3, 1) := by decide +kernel
theorem eX7_findTarget_29 : decode cX7_findTarget 29 = .ok (.iload_n 2, 1) := by decide +kernel
theorem eX7_findTarget_30 : decode cX7_findTarget 30 = .ok (.if_icmp .ge 56, 3) := by decide +kernel
theorem eX7_findTarget_33 : decode cX7_findTarget 33 = .ok (.iload_n 3, 1) := by decide +kernel
theorem eX7_findTarget_34 : decode cX7_findTarget 34 = .ok (.aload_n 0, 1) := by decide +kernel
theorem eX7_findTarget_35 : decode cX7_findTarget 35 = .ok (.getfield 26, 3) := by decide +kernel
theorem eX7_findTarget_38 : decode cX7_findTarget 38 = .ok (.arraylength, 1) := by decide +kernel
theorem eX7_findTarget_39 : decode cX7_findTarget 39 = .ok (.if_icmp .ge 47, 3) := by decide +kernel
theorem eX7_findTarget_42 : decode cX7_findTarget 42 = .ok (.aload_n 0, 1) := by decide +kernel
theorem eX7_findTarget_43 : decode cX7_findTarget 43 = .ok (.getfield 33, 3) := by decide +kernel
theorem eX7_findTarget_46 : decode cX7_findTarget 46 = .ok (.aload_n 0, 1) := by decide +kernel
theorem eX7_findTarget_47 : decode cX7_findTarget 47 = .ok (.getfield 26, 3) := by decide +kernel
theorem eX7_findTarget_50 : decode cX7_findTarget 50 = .ok (.iload_n 3, 1) := by decide +kernel
theorem eX7_findTarget_51 : decode cX7_findTarget 51 = .ok (.iaload, 1) := by decide +kernel
theorem eX7_findTarget_52 : decode cX7_findTarget 52 = .ok (.invokevirtual 172, 3) := by decide +kernel
theorem eX7_findTarget_55 : decode cX7_findTarget 55 = .ok (.aload_n 0, 1) := by decide +kernel
theorem eX7_findTarget_56 : decode cX7_findTarget 56 = .ok (.getfield 108, 3) := by decide +kernel
theorem eX7_findTarget_59 : decode cX7_findTarget 59 = .ok (.lcmp, 1) := by decide +kernel
theorem eX7_findTarget_60 : decode cX7_findTarget 60 = .ok (.ifCond .ne 20, 3) := by decide +kernel
theorem eX7_findTarget_63 : decode cX7_findTarget 63 = .ok (.aload_n 0, 1) := by decide +kernel
theorem eX7_findTarget_64 : decode cX7_findTarget 64 = .ok (.getfield 33, 3) := by decide +kernel
theorem eX7_findTarget_67 : decode cX7_findTarget 67 = .ok (.getfield 176, 3) := by decide +kernel
theorem eX7_findTarget_70 : decode cX7_findTarget 70 = .ok (.iload_n 1, 1) := by decide +kernel
theorem eX7_findTarget_71 : decode cX7_findTarget 71 = .ok (.aload_n 0, 1) := by decide +kernel
theorem eX7_findTarget_72 : decode cX7_findTarget 72 = .ok (.getfield 26, 3) := by decide +kernel
theorem eX7_findTarget_75 : decode cX7_findTarget 75 = .ok (.iload_n 3, 1) := by decide +kernel
theorem eX7_findTarget_76 : decode cX7_findTarget 76 = .ok (.iaload, 1) := by decide +kernel
theorem eX7_findTarget_77 : decode cX7_findTarget 77 = .ok (.iastore, 1) := by decide +kernel
theorem eX7_findTarget_78 : decode cX7_findTarget 78 = .ok (.iconst 1, 1) := by decide +kernel
theorem eX7_findTarget_79 : decode cX7_findTarget 79 = .ok (.ireturn, 1) := by decide +kernel
theorem eX7_findTarget_80 : decode cX7_findTarget 80 = .ok (.iinc 3 1, 3) := by decide +kernel
theorem eX7_findTarget_83 : decode cX7_findTarget 83 = .ok (.goto (-55), 3) := by decide +kernel
theorem eX7_findTarget_86 : decode cX7_findTarget 86 = .ok (.iconst 0, 1) := by decide +kernel
theorem eX7_findTarget_87 : decode cX7_findTarget 87 = .ok (.ireturn, 1) := by decide +kernel
def C_X7_findTarget (s : ST) (p : Int) (Q : ST → Int → Prop) : Prop := bx <| RA s → R32 p → q_met mX7_findTarget (qs layX s) [.ref 46, .int (Int32.ofInt p)] (PB layX Q)
theorem C_X7_findTarget.mono {s : ST} {p : Int} {Q Q' : ST → Int → Prop} (h : C_X7_findTarget s p Q) (hq : ∀ s v, Q s v → Q' s v) : C_X7_findTarget s p Q' := ⟨fun hA hrp => q_met.mono (h.1 hA hrp) (fun _ _ => PB.mono hq), trivial⟩
def K_X7_findTarget_28 (s : ST) (a1 : Int) (a2 : Int) (a3 : Int) (Q : ST → Int → Prop) : Prop := bx <| RA s → R32 a1 → R32 a2 → R32 a3 → q_K mX7_findTarget (qs layX s) 0 0 28 [(0, .ref 46), (1, .int (Int32.ofInt a1)), (2, .int (Int32.ofInt a2)), (3, .int (Int32.ofInt a3))] [] (q_fin mX7_findTarget (PB layX Q))
set_option maxRecDepth 20000 in
theorem s_X7_findTarget_28 {s : ST} {a1 : Int} {a2 : Int} {a3 : Int} {Q : ST → Int → Prop} (h : RA s → R32 a1 → R32 a2 → R32 a3 → ((a2 ≤ a3 → Q s 0) ∧ (¬ a2 ≤ a3 → ((48 ≤ a3 → Q s 0) ∧ (¬ 48 ≤ a3 → (((0 : Int) ≤ a3 ∧ a3 < 48) ∧ (P_X9_wordOf 18 s (s.1 50 a3) ∧ ((¬ (F_X9_wordOf 18 s (s.1 50 a3)) = (s.2 46 7) → (R32 (a3 + 1) ∧ K_X7_findTarget_28 s a1 a2 (a3 + 1) Q)) ∧ ((F_X9_wordOf 18 s (s.1 50 a3)) = (s.2 46 7) → (((0 : Int) ≤ a1 ∧ a1 < 40) ∧ Q (ui s 29 a1 (s.1 50 a3)) 1)))))))))) : K_X7_findTarget_28 s a1 a2 a3 Q := by
  refine ⟨?_, trivial⟩
  intro hA hra1 hra2 hra3
  have h := h hA hra1 hra2 hra3
  refine q_iload_n eX7_findTarget_28 rfl ?_
  refine q_iload_n eX7_findTarget_29 rfl ?_
  refine q_cz_ge (tgt := 86) (a := a3) (b := a2) eX7_findTarget_30 (by decide) (ofz hra3) (ofz hra2) (fun c30 => ?_) (fun c30 => ?_)
  · have h := h.1 c30
    refine q_ic (v := Int32.ofInt 0) eX7_findTarget_86 rfl ?_
    exact q_zret eX7_findTarget_87 rfl (z01 (Or.inl rfl)) ⟨_, _, rfl, hA, (Or.inl rfl), rfl, h⟩
  · have h := h.2 c30
    refine q_iload_n eX7_findTarget_33 rfl ?_
    refine q_aload_n eX7_findTarget_34 rfl ?_
    refine q_getR (c := 7) (n := 0) (k := 14) (a := 50) eX7_findTarget_35 rfl (by decide) (by decide) fX7_26 rfl rfl ?_
    refine q_alenz (v := Int32.ofInt 48) eX7_findTarget_38 rfl rfl rfl ?_
    refine q_cz_ge (tgt := 86) (a := a3) (b := 48) eX7_findTarget_39 (by decide) (ofz hra3) (ofz (r32l rfl)) (fun c39 => ?_) (fun c39 => ?_)
    · have h := h.1 c39
      refine q_ic (v := Int32.ofInt 0) eX7_findTarget_86 rfl ?_
      exact q_zret eX7_findTarget_87 rfl (z01 (Or.inl rfl)) ⟨_, _, rfl, hA, (Or.inl rfl), rfl, h⟩
    · have h := h.2 c39
      refine q_aload_n eX7_findTarget_42 rfl ?_
      refine q_getR (c := 7) (n := 0) (k := 10) (a := 18) eX7_findTarget_43 rfl (by decide) (by decide) fX7_33 rfl rfl ?_
      refine q_aload_n eX7_findTarget_46 rfl ?_
      refine q_getR (c := 7) (n := 0) (k := 14) (a := 50) eX7_findTarget_47 rfl (by decide) (by decide) fX7_26 rfl rfl ?_
      refine q_iload_n eX7_findTarget_50 rfl ?_
      have f1 := h.1
      have h := h.2
      refine z_iald (n := 48) eX7_findTarget_51 rfl (ofz hra3) f1 ?_
      refine q_topI (v := Int32.ofInt (s.1 50 a3)) rfl ?_
      have f3 := h.1
      have h := h.2
      refine q_V1 (ci := 9) (n := 0) eX7_findTarget_52 DX9_wordOf lX7_172 rfl (by decide) rfl rfl rfl rfl (p_X9_wordOf f3 (by decide) hA (hA _ _)) ?_
      rintro _ _ ⟨rfl, rfl⟩
      refine q_aload_n eX7_findTarget_55 rfl ?_
      refine q_getf (c := 7) (n := 0) (k := 7) (v := .long (s.2 46 7)) eX7_findTarget_56 rfl (by decide) (by decide) fX7_108 rfl ?_
      refine q_lcmp eX7_findTarget_59 ?_
      refine z_lc_ne (tgt := 80) eX7_findTarget_60 (by decide) (fun c60 => ?_) (fun c60 => ?_)
      · have h := h.1 c60
        have r4 := h.1
        have h := h.2
        refine z_inc (m := 1) eX7_findTarget_80 rfl (Nat.le_of_ble_eq_true rfl) rfl ?_
        refine q_goto (tgt := 28) eX7_findTarget_83 (by decide) ?_
        exact q_subL rfl (h.1 hA hra1 hra2 r4)
      · have h := h.2 c60
        refine q_aload_n eX7_findTarget_63 rfl ?_
        refine q_getR (c := 7) (n := 0) (k := 10) (a := 18) eX7_findTarget_64 rfl (by decide) (by decide) fX7_33 rfl rfl ?_
        refine q_getR (c := 9) (n := 0) (k := 13) (a := 29) eX7_findTarget_67 rfl (by decide) (by decide) fX7_176 rfl rfl ?_
        refine q_iload_n eX7_findTarget_70 rfl ?_
        refine q_aload_n eX7_findTarget_71 rfl ?_
        refine q_getR (c := 7) (n := 0) (k := 14) (a := 50) eX7_findTarget_72 rfl (by decide) (by decide) fX7_26 rfl rfl ?_
        refine q_iload_n eX7_findTarget_75 rfl ?_
        refine z_iald (n := 48) eX7_findTarget_76 rfl (ofz hra3) f1 ?_
        refine q_topI (v := Int32.ofInt (s.1 50 a3)) rfl ?_
        have f5 := h.1
        have h := h.2
        refine z_iast (n := 40) eX7_findTarget_77 rfl (ofz hra1) f5  ?_
        refine q_ic (v := Int32.ofInt 1) eX7_findTarget_78 rfl ?_
        exact q_zret eX7_findTarget_79 rfl (z01 (Or.inr rfl)) ⟨_, _, rfl, (ra_ui hA (hA _ _)), (Or.inr rfl), rfl, h⟩
set_option maxRecDepth 20000 in
theorem s_X7_findTarget {s : ST} {p : Int} {Q : ST → Int → Prop} (h : RA s → R32 p → (((¬ p < 0 ∧ (¬ s.1 18 1 ≤ p ∧ ¬ 40 ≤ p)) → (C_X9_choicesAt 18 50 s p (fun s2 v2 => K_X7_findTarget_28 s2 p v2 0 Q))) ∧ (¬ (¬ p < 0 ∧ (¬ s.1 18 1 ≤ p ∧ ¬ 40 ≤ p)) → Q s 0))) : C_X7_findTarget s p Q := by
  refine ⟨?_, trivial⟩
  intro hA hrp
  have h := h hA hrp
  refine q_enter (by decide) (Nat.le_of_ble_eq_true rfl) ?_
  refine q_aload_n eX7_findTarget_0 rfl ?_
  refine q_getR (c := 7) (n := 0) (k := 10) (a := 18) eX7_findTarget_1 rfl (by decide) (by decide) fX7_33 rfl rfl ?_
  refine q_iload_n eX7_findTarget_4 rfl ?_
  refine q_V1 (ci := 9) (n := 0) eX7_findTarget_5 DX9_has lX7_122 rfl (by decide) rfl rfl rfl rfl (p_X9_has (by decide) hA hrp) ?_
  rintro _ _ ⟨b1, rfl, rfl⟩
  refine q_iz_ne (tgt := 13) (a := (F_X9_has 18 s p)) eX7_findTarget_8 (by decide) (ofz (r01 b1)) (fun c8 => ?_) (fun c8 => ?_)
  · have h := h.1 (n_X9_has.mp c8)
    refine q_aload_n eX7_findTarget_13 rfl ?_
    refine q_getR (c := 7) (n := 0) (k := 10) (a := 18) eX7_findTarget_14 rfl (by decide) (by decide) fX7_33 rfl rfl ?_
    refine q_iload_n eX7_findTarget_17 rfl ?_
    refine q_aload_n eX7_findTarget_18 rfl ?_
    refine q_getR (c := 7) (n := 0) (k := 14) (a := 50) eX7_findTarget_19 rfl (by decide) (by decide) fX7_26 rfl rfl ?_
    refine q_V2 (ci := 9) (n := 0) eX7_findTarget_22 DX9_choicesAt lX7_168 rfl (by decide) rfl rfl rfl rfl (h.1 (by decide) (by decide) hA hrp) ?_
    rintro _ _ ⟨s2, v2, rfl, hA2, r2, rfl, h⟩
    refine q_istore_n eX7_findTarget_25 (Nat.le_of_ble_eq_true rfl) ?_
    refine q_ic (v := Int32.ofInt 0) eX7_findTarget_26 rfl ?_
    refine q_istore_n eX7_findTarget_27 (Nat.le_of_ble_eq_true rfl) ?_
    exact q_subL rfl (h.1 hA2 hrp r2 (r32l rfl))
  · have h := h.2 (fun q => n_X9_has.mpr q c8)
    refine q_ic (v := Int32.ofInt 0) eX7_findTarget_11 rfl ?_
    exact q_zret eX7_findTarget_12 rfl (z01 (Or.inl rfl)) ⟨_, _, rfl, hA, (Or.inl rfl), rfl, h⟩
theorem eX7_readBound_0 : decode cX7_readBound 0 = .ok (.aload_n 0, 1) := by decide +kernel
theorem eX7_readBound_1 : decode cX7_readBound 1 = .ok (.invokevirtual 101, 3) := by decide +kernel
theorem eX7_readBound_4 : decode cX7_readBound 4 = .ok (.ifCond .eq 14, 3) := by decide +kernel
theorem eX7_readBound_7 : decode cX7_readBound 7 = .ok (.aload_n 0, 1) := by decide +kernel
theorem eX7_readBound_8 : decode cX7_readBound 8 = .ok (.getfield 33, 3) := by decide +kernel
theorem eX7_readBound_11 : decode cX7_readBound 11 = .ok (.iload_n 1, 1) := by decide +kernel
theorem eX7_readBound_12 : decode cX7_readBound 12 = .ok (.invokevirtual 122, 3) := by decide +kernel
theorem eX7_readBound_15 : decode cX7_readBound 15 = .ok (.ifCond .ne 8, 3) := by decide +kernel
theorem eX7_readBound_18 : decode cX7_readBound 18 = .ok (.aload_n 0, 1) := by decide +kernel
theorem eX7_readBound_19 : decode cX7_readBound 19 = .ok (.invokevirtual 98, 3) := by decide +kernel
theorem eX7_readBound_22 : decode cX7_readBound 22 = .ok (.return_, 1) := by decide +kernel
theorem eX7_readBound_23 : decode cX7_readBound 23 = .ok (.aload_n 0, 1) := by decide +kernel
theorem eX7_readBound_24 : decode cX7_readBound 24 = .ok (.getfield 33, 3) := by decide +kernel
theorem eX7_readBound_27 : decode cX7_readBound 27 = .ok (.getfield 179, 3) := by decide +kernel
theorem eX7_readBound_30 : decode cX7_readBound 30 = .ok (.iload_n 1, 1) := by decide +kernel
theorem eX7_readBound_31 : decode cX7_readBound 31 = .ok (.aload_n 0, 1) := by decide +kernel
theorem eX7_readBound_32 : decode cX7_readBound 32 = .ok (.getfield 108, 3) := by decide +kernel
theorem eX7_readBound_35 : decode cX7_readBound 35 = .ok (.lastore, 1) := by decide +kernel
theorem eX7_readBound_36 : decode cX7_readBound 36 = .ok (.aload_n 0, 1) := by decide +kernel
theorem eX7_readBound_37 : decode cX7_readBound 37 = .ok (.invokevirtual 66, 3) := by decide +kernel
theorem eX7_readBound_40 : decode cX7_readBound 40 = .ok (.return_, 1) := by decide +kernel
def C_X7_readBound (s : ST) (p : Int) (Q : ST → Prop) : Prop := bx <| RA s → R32 p → q_met mX7_readBound (qs layX s) [.ref 46, .int (Int32.ofInt p)] (PV layX Q)
theorem C_X7_readBound.mono {s : ST} {p : Int} {Q Q' : ST → Prop} (h : C_X7_readBound s p Q) (hq : ∀ s, Q s → Q' s) : C_X7_readBound s p Q' := ⟨fun hA hrp => q_met.mono (h.1 hA hrp) (fun _ _ => PV.mono hq), trivial⟩
def K_X7_readBound_18 (s : ST) (Q : ST → Prop) : Prop := bx <| RA s → q_K mX7_readBound (qs layX s) 0 0 18 [(0, .ref 46)] [] (q_fin mX7_readBound (PV layX Q))
set_option maxRecDepth 20000 in
theorem s_X7_readBound_18 {s : ST} {Q : ST → Prop} (h : RA s → (C_X7_refuseToken s (fun s1 => Q s1))) : K_X7_readBound_18 s Q := by
  refine ⟨?_, trivial⟩
  intro hA
  have h := h hA
  refine q_aload_n eX7_readBound_18 rfl ?_
  refine q_V0 (ci := 7) (n := 0) eX7_readBound_19 DX7_refuseToken lX7_98 rfl (by decide) rfl rfl rfl rfl (h.1 hA) ?_
  rintro _ _ ⟨s1, rfl, hA1, rfl, h⟩
  exact q_ret eX7_readBound_22 rfl ⟨_, rfl, hA1, rfl, h⟩
set_option maxRecDepth 20000 in
theorem s_X7_readBound {s : ST} {p : Int} {Q : ST → Prop} (h : RA s → R32 p → ((¬ (s.1 46 5 = 1 ∧ s.1 46 9 = (-1)) → K_X7_readBound_18 s Q) ∧ ((s.1 46 5 = 1 ∧ s.1 46 9 = (-1)) → (((¬ p < 0 ∧ (¬ s.1 18 1 ≤ p ∧ ¬ 40 ≤ p)) → (((0 : Int) ≤ p ∧ p < 40) ∧ (C_X7_readToken (uj s 28 p (s.2 46 7)) (fun s4 => Q s4)))) ∧ (¬ (¬ p < 0 ∧ (¬ s.1 18 1 ≤ p ∧ ¬ 40 ≤ p)) → K_X7_readBound_18 s Q))))) : C_X7_readBound s p Q := by
  refine ⟨?_, trivial⟩
  intro hA hrp
  have h := h hA hrp
  refine q_enter (by decide) (Nat.le_of_ble_eq_true rfl) ?_
  refine q_aload_n eX7_readBound_0 rfl ?_
  refine q_V0 (ci := 7) (n := 0) eX7_readBound_1 DX7_isName lX7_101 rfl (by decide) rfl rfl rfl rfl (p_X7_isName hA) ?_
  rintro _ _ ⟨b1, rfl, rfl⟩
  refine q_iz_eq (tgt := 18) (a := (F_X7_isName s)) eX7_readBound_4 (by decide) (ofz (r01 b1)) (fun c4 => ?_) (fun c4 => ?_)
  · have h := h.1 (fun q => n_X7_isName.mpr q c4)
    exact q_subL rfl (h.1 hA)
  · have h := h.2 (n_X7_isName.mp c4)
    refine q_aload_n eX7_readBound_7 rfl ?_
    refine q_getR (c := 7) (n := 0) (k := 10) (a := 18) eX7_readBound_8 rfl (by decide) (by decide) fX7_33 rfl rfl ?_
    refine q_iload_n eX7_readBound_11 rfl ?_
    refine q_V1 (ci := 9) (n := 0) eX7_readBound_12 DX9_has lX7_122 rfl (by decide) rfl rfl rfl rfl (p_X9_has (by decide) hA hrp) ?_
    rintro _ _ ⟨b2, rfl, rfl⟩
    refine q_iz_ne (tgt := 23) (a := (F_X9_has 18 s p)) eX7_readBound_15 (by decide) (ofz (r01 b2)) (fun c15 => ?_) (fun c15 => ?_)
    · have h := h.1 (n_X9_has.mp c15)
      refine q_aload_n eX7_readBound_23 rfl ?_
      refine q_getR (c := 7) (n := 0) (k := 10) (a := 18) eX7_readBound_24 rfl (by decide) (by decide) fX7_33 rfl rfl ?_
      refine q_getR (c := 9) (n := 0) (k := 12) (a := 28) eX7_readBound_27 rfl (by decide) (by decide) fX7_179 rfl rfl ?_
      refine q_iload_n eX7_readBound_30 rfl ?_
      refine q_aload_n eX7_readBound_31 rfl ?_
      refine q_getf (c := 7) (n := 0) (k := 7) (v := .long (s.2 46 7)) eX7_readBound_32 rfl (by decide) (by decide) fX7_108 rfl ?_
      have f3 := h.1
      have h := h.2
      refine z_last (n := 40) eX7_readBound_35 rfl (ofz hrp) f3  ?_
      refine q_aload_n eX7_readBound_36 rfl ?_
      refine q_V0 (ci := 7) (n := 0) eX7_readBound_37 DX7_readToken lX7_66 rfl (by decide) rfl rfl rfl rfl (h.1 (ra_uj hA)) ?_
      rintro _ _ ⟨s4, rfl, hA4, rfl, h⟩
      exact q_ret eX7_readBound_40 rfl ⟨_, rfl, hA4, rfl, h⟩
    · have h := h.2 (fun q => n_X9_has.mpr q c15)
      exact q_subL rfl (h.1 hA)
