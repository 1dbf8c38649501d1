/-! STEP ROWS of the class. By program (wip/wp/gen_parts.py). -/
theorem eX9_rootOf_0 : decode cX9_rootOf 0 = .ok (.iload_n 1, 1) := by decide +kernel
theorem eX9_rootOf_1 : decode cX9_rootOf 1 = .ok (.ifCond .lt 26, 3) := by decide +kernel
theorem eX9_rootOf_4 : decode cX9_rootOf 4 = .ok (.iload_n 1, 1) := by decide +kernel
theorem eX9_rootOf_5 : decode cX9_rootOf 5 = .ok (.aload_n 0, 1) := by decide +kernel
theorem eX9_rootOf_6 : decode cX9_rootOf 6 = .ok (.getfield 55, 3) := by decide +kernel
theorem eX9_rootOf_9 : decode cX9_rootOf 9 = .ok (.if_icmp .ge 18, 3) := by decide +kernel
theorem eX9_rootOf_12 : decode cX9_rootOf 12 = .ok (.iload_n 1, 1) := by decide +kernel
theorem eX9_rootOf_13 : decode cX9_rootOf 13 = .ok (.bipush 8, 2) := by decide +kernel
theorem eX9_rootOf_15 : decode cX9_rootOf 15 = .ok (.if_icmp .ge 12, 3) := by decide +kernel
theorem eX9_rootOf_18 : decode cX9_rootOf 18 = .ok (.aload_n 0, 1) := by decide +kernel
theorem eX9_rootOf_19 : decode cX9_rootOf 19 = .ok (.getfield 15, 3) := by decide +kernel
theorem eX9_rootOf_22 : decode cX9_rootOf 22 = .ok (.iload_n 1, 1) := by decide +kernel
theorem eX9_rootOf_23 : decode cX9_rootOf 23 = .ok (.iaload, 1) := by decide +kernel
theorem eX9_rootOf_24 : decode cX9_rootOf 24 = .ok (.goto 4, 3) := by decide +kernel
theorem eX9_rootOf_27 : decode cX9_rootOf 27 = .ok (.iconst (-1), 1) := by decide +kernel
theorem eX9_rootOf_28 : decode cX9_rootOf 28 = .ok (.ireturn, 1) := by decide +kernel
def C_X9_rootOf (t : Nat) (s : ST) (p : Int) (Q : ST → Int → Prop) : Prop := bx <| isT t → RA s → R32 p → q_met mX9_rootOf (qs layX s) [.ref t, .int (Int32.ofInt p)] (PI layX Q)
theorem C_X9_rootOf.mono {t : Nat} {s : ST} {p : Int} {Q Q' : ST → Int → Prop} (h : C_X9_rootOf t s p Q) (hq : ∀ s v, Q s v → Q' s v) : C_X9_rootOf t s p Q' := ⟨fun ht hA hrp => q_met.mono (h.1 ht hA hrp) (fun _ _ => PI.mono hq), trivial⟩
set_option maxRecDepth 20000 in
theorem s_X9_rootOf {t : Nat} {s : ST} {p : Int} {Q : ST → Int → Prop} (h : isT t → RA s → R32 p → ((p < 0 → Q s (-1)) ∧ (¬ p < 0 → ((s.1 t 0 ≤ p → Q s (-1)) ∧ (¬ s.1 t 0 ≤ p → ((8 ≤ p → Q s (-1)) ∧ (¬ 8 ≤ p → (((0 : Int) ≤ p ∧ p < 8) ∧ Q s (s.1 (t + 2) p))))))))) : C_X9_rootOf t s p Q := by
  refine ⟨?_, trivial⟩
  intro ht hA hrp
  have h := h ht hA hrp
  refine q_enter (by decide) (Nat.le_of_ble_eq_true rfl) ?_
  refine q_iload_n eX9_rootOf_0 rfl ?_
  refine q_iz_lt (tgt := 27) (a := p) eX9_rootOf_1 (by decide) (ofz hrp) (fun c1 => ?_) (fun c1 => ?_)
  · have h := h.1 c1
    refine q_ic (v := Int32.ofInt (-1)) eX9_rootOf_27 rfl ?_
    exact q_iret eX9_rootOf_28 rfl ⟨_, _, rfl, hA, (r32l rfl), rfl, h⟩
  · have h := h.2 c1
    refine q_iload_n eX9_rootOf_4 rfl ?_
    refine q_aload_n eX9_rootOf_5 rfl ?_
    refine q_getf (c := 9) (n := 0) (k := 0) (v := .int (Int32.ofInt (s.1 t 0))) eX9_rootOf_6 (tl_0 ht) (by decide) (by decide) fX9_55 rfl ?_
    refine q_cz_ge (tgt := 27) (a := p) (b := s.1 t 0) eX9_rootOf_9 (by decide) (ofz hrp) (ofz (hA _ _)) (fun c9 => ?_) (fun c9 => ?_)
    · have h := h.1 c9
      refine q_ic (v := Int32.ofInt (-1)) eX9_rootOf_27 rfl ?_
      exact q_iret eX9_rootOf_28 rfl ⟨_, _, rfl, hA, (r32l rfl), rfl, h⟩
    · have h := h.2 c9
      refine q_iload_n eX9_rootOf_12 rfl ?_
      refine q_bi (v := Int32.ofInt 8) eX9_rootOf_13 rfl ?_
      refine q_cz_ge (tgt := 27) (a := p) (b := 8) eX9_rootOf_15 (by decide) (ofz hrp) (ofz (r32l rfl)) (fun c15 => ?_) (fun c15 => ?_)
      · have h := h.1 c15
        refine q_ic (v := Int32.ofInt (-1)) eX9_rootOf_27 rfl ?_
        exact q_iret eX9_rootOf_28 rfl ⟨_, _, rfl, hA, (r32l rfl), rfl, h⟩
      · have h := h.2 c15
        refine q_aload_n eX9_rootOf_18 rfl ?_
        refine q_getR (c := 9) (n := 0) (k := 4) (a := (t + 2)) eX9_rootOf_19 (tl_0 ht) (by decide) (by decide) fX9_15 rfl (tr_4 ht) ?_
        refine q_iload_n eX9_rootOf_22 rfl ?_
        have f1 := h.1
        have h := h.2
        refine z_iald (n := 8) eX9_rootOf_23 (tl_2 ht) (ofz hrp) f1 ?_
        refine q_topI (v := Int32.ofInt (s.1 (t + 2) p)) rfl ?_
        refine q_goto (tgt := 28) eX9_rootOf_24 (by decide) ?_
        exact q_iret eX9_rootOf_28 rfl ⟨_, _, rfl, hA, (hA _ _), rfl, h⟩
def F_X9_rootOf (t : Nat) (s : ST) (p : Int) : Int := (if p < 0 then (-1) else (if s.1 t 0 ≤ p then (-1) else (if 8 ≤ p then (-1) else s.1 (t + 2) p)))
abbrev P_X9_rootOf (t : Nat) (s : ST) (p : Int) : Prop := (¬ p < 0 → (¬ s.1 t 0 ≤ p → (¬ 8 ≤ p → ((0 : Int) ≤ p ∧ p < 8))))
theorem w_X9_rootOf {t : Nat} {s : ST} {p : Int} (h : P_X9_rootOf t s p) : C_X9_rootOf t s p (fun s' v => s' = s ∧ v = F_X9_rootOf t s p) := by
  refine s_X9_rootOf (fun ht hA hrp => ?_)
  unfold P_X9_rootOf at h
  refine ⟨fun e0 => ?_, fun e0 => ?_⟩
  · exact ⟨rfl, by unfold F_X9_rootOf; rw [if_pos e0]⟩
  · have h := h e0
    refine ⟨fun e1 => ?_, fun e1 => ?_⟩
    · exact ⟨rfl, by unfold F_X9_rootOf; rw [if_neg e0, if_pos e1]⟩
    · have h := h e1
      refine ⟨fun e2 => ?_, fun e2 => ?_⟩
      · exact ⟨rfl, by unfold F_X9_rootOf; rw [if_neg e0, if_neg e1, if_pos e2]⟩
      · have h := h e2
        refine ⟨h, ?_⟩
        exact ⟨rfl, by unfold F_X9_rootOf; rw [if_neg e0, if_neg e1, if_neg e2]⟩
theorem p_X9_rootOf {t : Nat} {s : ST} {p : Int} (h : P_X9_rootOf t s p) : isT t → RA s → R32 p → q_met mX9_rootOf (qs layX s) [.ref t, .int (Int32.ofInt p)] (fun σ r => R32 (F_X9_rootOf t s p) ∧ σ = qs layX s ∧ r = some (.int (Int32.ofInt (F_X9_rootOf t s p)))) := fun ht hA hrp => q_met.mono ((w_X9_rootOf h).1 ht hA hrp) (by
  rintro _ _ ⟨s1, v1, rfl, h1, h2, rfl, rfl, rfl⟩
  exact ⟨h2, rfl, rfl⟩)
theorem eX0_pileUp_0 : decode cX0_pileUp 0 = .ok (.aload_n 0, 1) := by decide +kernel
theorem eX0_pileUp_1 : decode cX0_pileUp 1 = .ok (.getfield 60, 3) := by decide +kernel
theorem eX0_pileUp_4 : decode cX0_pileUp 4 = .ok (.ifCond .lt 53, 3) := by decide +kernel
theorem eX0_pileUp_7 : decode cX0_pileUp 7 = .ok (.aload_n 0, 1) := by decide +kernel
theorem eX0_pileUp_8 : decode cX0_pileUp 8 = .ok (.getfield 60, 3) := by decide +kernel
theorem eX0_pileUp_11 : decode cX0_pileUp 11 = .ok (.sipush 403, 3) := by decide +kernel
theorem eX0_pileUp_14 : decode cX0_pileUp 14 = .ok (.if_icmp .ge 43, 3) := by decide +kernel
theorem eX0_pileUp_17 : decode cX0_pileUp 17 = .ok (.aload_n 0, 1) := by decide +kernel
theorem eX0_pileUp_18 : decode cX0_pileUp 18 = .ok (.getfield 24, 3) := by decide +kernel
theorem eX0_pileUp_21 : decode cX0_pileUp 21 = .ok (.aload_n 0, 1) := by decide +kernel
theorem eX0_pileUp_22 : decode cX0_pileUp 22 = .ok (.getfield 60, 3) := by decide +kernel
theorem eX0_pileUp_25 : decode cX0_pileUp 25 = .ok (.iload_n 1, 1) := by decide +kernel
theorem eX0_pileUp_26 : decode cX0_pileUp 26 = .ok (.iastore, 1) := by decide +kernel
theorem eX0_pileUp_27 : decode cX0_pileUp 27 = .ok (.aload_n 0, 1) := by decide +kernel
theorem eX0_pileUp_28 : decode cX0_pileUp 28 = .ok (.getfield 27, 3) := by decide +kernel
theorem eX0_pileUp_31 : decode cX0_pileUp 31 = .ok (.aload_n 0, 1) := by decide +kernel
theorem eX0_pileUp_32 : decode cX0_pileUp 32 = .ok (.getfield 60, 3) := by decide +kernel
theorem eX0_pileUp_35 : decode cX0_pileUp 35 = .ok (.iload_n 2, 1) := by decide +kernel
theorem eX0_pileUp_36 : decode cX0_pileUp 36 = .ok (.iastore, 1) := by decide +kernel
theorem eX0_pileUp_37 : decode cX0_pileUp 37 = .ok (.aload_n 0, 1) := by decide +kernel
theorem eX0_pileUp_38 : decode cX0_pileUp 38 = .ok (.getfield 30, 3) := by decide +kernel
theorem eX0_pileUp_41 : decode cX0_pileUp 41 = .ok (.aload_n 0, 1) := by decide +kernel
theorem eX0_pileUp_42 : decode cX0_pileUp 42 = .ok (.getfield 60, 3) := by decide +kernel
theorem eX0_pileUp_45 : decode cX0_pileUp 45 = .ok (.iload_n 3, 1) := by decide +kernel
theorem eX0_pileUp_46 : decode cX0_pileUp 46 = .ok (.iastore, 1) := by decide +kernel
theorem eX0_pileUp_47 : decode cX0_pileUp 47 = .ok (.aload_n 0, 1) := by decide +kernel
theorem eX0_pileUp_48 : decode cX0_pileUp 48 = .ok (.dup, 1) := by decide +kernel
theorem eX0_pileUp_49 : decode cX0_pileUp 49 = .ok (.getfield 60, 3) := by decide +kernel
theorem eX0_pileUp_52 : decode cX0_pileUp 52 = .ok (.iconst 1, 1) := by decide +kernel
theorem eX0_pileUp_53 : decode cX0_pileUp 53 = .ok (.iadd, 1) := by decide +kernel
theorem eX0_pileUp_54 : decode cX0_pileUp 54 = .ok (.putfield 60, 3) := by decide +kernel
theorem eX0_pileUp_57 : decode cX0_pileUp 57 = .ok (.return_, 1) := by decide +kernel
def C_X0_pileUp (a : Nat) (s : ST) (p : Int) (q : Int) (u : Int) (Q : ST → Prop) : Prop := bx <| isA a → RA s → R32 p → R32 q → R32 u → q_met mX0_pileUp (qs layX s) [.ref a, .int (Int32.ofInt p), .int (Int32.ofInt q), .int (Int32.ofInt u)] (PV layX Q)
theorem C_X0_pileUp.mono {a : Nat} {s : ST} {p : Int} {q : Int} {u : Int} {Q Q' : ST → Prop} (h : C_X0_pileUp a s p q u Q) (hq : ∀ s, Q s → Q' s) : C_X0_pileUp a s p q u Q' := ⟨fun ha hA hrp hrq hru => q_met.mono (h.1 ha hA hrp hrq hru) (fun _ _ => PV.mono hq), trivial⟩
set_option maxRecDepth 20000 in
theorem s_X0_pileUp {a : Nat} {s : ST} {p : Int} {q : Int} {u : Int} {Q : ST → Prop} (h : isA a → RA s → R32 p → R32 q → R32 u → ((s.1 a 15 < 0 → Q s) ∧ (¬ s.1 a 15 < 0 → ((403 ≤ s.1 a 15 → Q s) ∧ (¬ 403 ≤ s.1 a 15 → (((0 : Int) ≤ s.1 a 15 ∧ s.1 a 15 < 403) ∧ (((0 : Int) ≤ (ui s (a + 5) (s.1 a 15) p).1 a 15 ∧ (ui s (a + 5) (s.1 a 15) p).1 a 15 < 403) ∧ (((0 : Int) ≤ (ui (ui s (a + 5) (s.1 a 15) p) (a + 6) ((ui s (a + 5) (s.1 a 15) p).1 a 15) q).1 a 15 ∧ (ui (ui s (a + 5) (s.1 a 15) p) (a + 6) ((ui s (a + 5) (s.1 a 15) p).1 a 15) q).1 a 15 < 403) ∧ (R32 ((ui (ui (ui s (a + 5) (s.1 a 15) p) (a + 6) ((ui s (a + 5) (s.1 a 15) p).1 a 15) q) (a + 7) ((ui (ui s (a + 5) (s.1 a 15) p) (a + 6) ((ui s (a + 5) (s.1 a 15) p).1 a 15) q).1 a 15) u).1 a 15 + 1) ∧ Q (ui (ui (ui (ui s (a + 5) (s.1 a 15) p) (a + 6) ((ui s (a + 5) (s.1 a 15) p).1 a 15) q) (a + 7) ((ui (ui s (a + 5) (s.1 a 15) p) (a + 6) ((ui s (a + 5) (s.1 a 15) p).1 a 15) q).1 a 15) u) a 15 ((ui (ui (ui s (a + 5) (s.1 a 15) p) (a + 6) ((ui s (a + 5) (s.1 a 15) p).1 a 15) q) (a + 7) ((ui (ui s (a + 5) (s.1 a 15) p) (a + 6) ((ui s (a + 5) (s.1 a 15) p).1 a 15) q).1 a 15) u).1 a 15 + 1))))))))))) : C_X0_pileUp a s p q u Q := by
  refine ⟨?_, trivial⟩
  intro ha hA hrp hrq hru
  have h := h ha hA hrp hrq hru
  refine q_enter (by decide) (Nat.le_of_ble_eq_true rfl) ?_
  refine q_aload_n eX0_pileUp_0 rfl ?_
  refine q_getf (c := 0) (n := 0) (k := 15) (v := .int (Int32.ofInt (s.1 a 15))) eX0_pileUp_1 (al_0 ha) (by decide) (by decide) fX0_60 rfl ?_
  refine q_iz_lt (tgt := 57) (a := s.1 a 15) eX0_pileUp_4 (by decide) (ofz (hA _ _)) (fun c4 => ?_) (fun c4 => ?_)
  · have h := h.1 c4
    exact q_ret eX0_pileUp_57 rfl ⟨_, rfl, hA, rfl, h⟩
  · have h := h.2 c4
    refine q_aload_n eX0_pileUp_7 rfl ?_
    refine q_getf (c := 0) (n := 0) (k := 15) (v := .int (Int32.ofInt (s.1 a 15))) eX0_pileUp_8 (al_0 ha) (by decide) (by decide) fX0_60 rfl ?_
    refine q_si (v := Int32.ofInt 403) eX0_pileUp_11 rfl ?_
    refine q_cz_ge (tgt := 57) (a := s.1 a 15) (b := 403) eX0_pileUp_14 (by decide) (ofz (hA _ _)) (ofz (r32l rfl)) (fun c14 => ?_) (fun c14 => ?_)
    · have h := h.1 c14
      exact q_ret eX0_pileUp_57 rfl ⟨_, rfl, hA, rfl, h⟩
    · have h := h.2 c14
      refine q_aload_n eX0_pileUp_17 rfl ?_
      refine q_getR (c := 0) (n := 0) (k := 12) (a := (a + 5)) eX0_pileUp_18 (al_0 ha) (by decide) (by decide) fX0_24 rfl (ar_12 ha) ?_
      refine q_aload_n eX0_pileUp_21 rfl ?_
      refine q_getf (c := 0) (n := 0) (k := 15) (v := .int (Int32.ofInt (s.1 a 15))) eX0_pileUp_22 (al_0 ha) (by decide) (by decide) fX0_60 rfl ?_
      refine q_iload_n eX0_pileUp_25 rfl ?_
      have f1 := h.1
      have h := h.2
      refine z_iast (n := 403) eX0_pileUp_26 (al_5 ha) (ofz (hA _ _)) f1  ?_
      refine q_aload_n eX0_pileUp_27 rfl ?_
      refine q_getR (c := 0) (n := 0) (k := 13) (a := (a + 6)) eX0_pileUp_28 (al_0 ha) (by decide) (by decide) fX0_27 rfl (ar_13 ha) ?_
      refine q_aload_n eX0_pileUp_31 rfl ?_
      refine q_getf (c := 0) (n := 0) (k := 15) (v := .int (Int32.ofInt ((ui s (a + 5) (s.1 a 15) p).1 a 15))) eX0_pileUp_32 (al_0 ha) (by decide) (by decide) fX0_60 rfl ?_
      refine q_iload_n eX0_pileUp_35 rfl ?_
      have f2 := h.1
      have h := h.2
      refine z_iast (n := 403) eX0_pileUp_36 (al_6 ha) (ofz ((ra_ui hA hrp) _ _)) f2  ?_
      refine q_aload_n eX0_pileUp_37 rfl ?_
      refine q_getR (c := 0) (n := 0) (k := 14) (a := (a + 7)) eX0_pileUp_38 (al_0 ha) (by decide) (by decide) fX0_30 rfl (ar_14 ha) ?_
      refine q_aload_n eX0_pileUp_41 rfl ?_
      refine q_getf (c := 0) (n := 0) (k := 15) (v := .int (Int32.ofInt ((ui (ui s (a + 5) (s.1 a 15) p) (a + 6) ((ui s (a + 5) (s.1 a 15) p).1 a 15) q).1 a 15))) eX0_pileUp_42 (al_0 ha) (by decide) (by decide) fX0_60 rfl ?_
      refine q_iload_n eX0_pileUp_45 rfl ?_
      have f3 := h.1
      have h := h.2
      refine z_iast (n := 403) eX0_pileUp_46 (al_7 ha) (ofz ((ra_ui (ra_ui hA hrp) hrq) _ _)) f3  ?_
      refine q_aload_n eX0_pileUp_47 rfl ?_
      refine q_dup eX0_pileUp_48 rfl ?_
      refine q_getf (c := 0) (n := 0) (k := 15) (v := .int (Int32.ofInt ((ui (ui (ui s (a + 5) (s.1 a 15) p) (a + 6) ((ui s (a + 5) (s.1 a 15) p).1 a 15) q) (a + 7) ((ui (ui s (a + 5) (s.1 a 15) p) (a + 6) ((ui s (a + 5) (s.1 a 15) p).1 a 15) q).1 a 15) u).1 a 15))) eX0_pileUp_49 (al_0 ha) (by decide) (by decide) fX0_60 rfl ?_
      refine q_ic (v := Int32.ofInt 1) eX0_pileUp_52 rfl ?_
      refine z_iadd eX0_pileUp_53 ?_
      have r4 := h.1
      have h := h.2
      refine z_putI (c := 0) (n := 0) (k := 15) (kz := 15) eX0_pileUp_54 (al_0 ha) (by decide) (by decide) fX0_60 rfl rfl rfl ?_
      exact q_ret eX0_pileUp_57 rfl ⟨_, rfl, (ra_ui (ra_ui (ra_ui (ra_ui hA hrp) hrq) hru) r4), rfl, h⟩
theorem eX9_has_0 : decode cX9_has 0 = .ok (.iload_n 1, 1) := by decide +kernel
theorem eX9_has_1 : decode cX9_has 1 = .ok (.ifCond .lt 21, 3) := by decide +kernel
theorem eX9_has_4 : decode cX9_has 4 = .ok (.iload_n 1, 1) := by decide +kernel
theorem eX9_has_5 : decode cX9_has 5 = .ok (.aload_n 0, 1) := by decide +kernel
theorem eX9_has_6 : decode cX9_has 6 = .ok (.getfield 59, 3) := by decide +kernel
theorem eX9_has_9 : decode cX9_has 9 = .ok (.if_icmp .ge 13, 3) := by decide +kernel
theorem eX9_has_12 : decode cX9_has 12 = .ok (.iload_n 1, 1) := by decide +kernel
theorem eX9_has_13 : decode cX9_has 13 = .ok (.bipush 40, 2) := by decide +kernel
theorem eX9_has_15 : decode cX9_has 15 = .ok (.if_icmp .ge 7, 3) := by decide +kernel
theorem eX9_has_18 : decode cX9_has 18 = .ok (.iconst 1, 1) := by decide +kernel
theorem eX9_has_19 : decode cX9_has 19 = .ok (.goto 4, 3) := by decide +kernel
theorem eX9_has_22 : decode cX9_has 22 = .ok (.iconst 0, 1) := by decide +kernel
theorem eX9_has_23 : decode cX9_has 23 = .ok (.ireturn, 1) := by decide +kernel
def C_X9_has (t : Nat) (s : ST) (p : Int) (Q : ST → Int → Prop) : Prop := bx <| isT t → RA s → R32 p → q_met mX9_has (qs layX s) [.ref t, .int (Int32.ofInt p)] (PB layX Q)
theorem C_X9_has.mono {t : Nat} {s : ST} {p : Int} {Q Q' : ST → Int → Prop} (h : C_X9_has t s p Q) (hq : ∀ s v, Q s v → Q' s v) : C_X9_has t s p Q' := ⟨fun ht hA hrp => q_met.mono (h.1 ht hA hrp) (fun _ _ => PB.mono hq), trivial⟩
set_option maxRecDepth 20000 in
theorem s_X9_has {t : Nat} {s : ST} {p : Int} {Q : ST → Int → Prop} (h : isT t → RA s → R32 p → ((p < 0 → Q s 0) ∧ (¬ p < 0 → ((s.1 t 1 ≤ p → Q s 0) ∧ (¬ s.1 t 1 ≤ p → ((40 ≤ p → Q s 0) ∧ (¬ 40 ≤ p → Q s 1))))))) : C_X9_has t s p Q := by
  refine ⟨?_, trivial⟩
  intro ht hA hrp
  have h := h ht hA hrp
  refine q_enter (by decide) (Nat.le_of_ble_eq_true rfl) ?_
  refine q_iload_n eX9_has_0 rfl ?_
  refine q_iz_lt (tgt := 22) (a := p) eX9_has_1 (by decide) (ofz hrp) (fun c1 => ?_) (fun c1 => ?_)
  · have h := h.1 c1
    refine q_ic (v := Int32.ofInt 0) eX9_has_22 rfl ?_
    exact q_zret eX9_has_23 rfl (z01 (Or.inl rfl)) ⟨_, _, rfl, hA, (Or.inl rfl), rfl, h⟩
  · have h := h.2 c1
    refine q_iload_n eX9_has_4 rfl ?_
    refine q_aload_n eX9_has_5 rfl ?_
    refine q_getf (c := 9) (n := 0) (k := 1) (v := .int (Int32.ofInt (s.1 t 1))) eX9_has_6 (tl_0 ht) (by decide) (by decide) fX9_59 rfl ?_
    refine q_cz_ge (tgt := 22) (a := p) (b := s.1 t 1) eX9_has_9 (by decide) (ofz hrp) (ofz (hA _ _)) (fun c9 => ?_) (fun c9 => ?_)
    · have h := h.1 c9
      refine q_ic (v := Int32.ofInt 0) eX9_has_22 rfl ?_
      exact q_zret eX9_has_23 rfl (z01 (Or.inl rfl)) ⟨_, _, rfl, hA, (Or.inl rfl), rfl, h⟩
    · have h := h.2 c9
      refine q_iload_n eX9_has_12 rfl ?_
      refine q_bi (v := Int32.ofInt 40) eX9_has_13 rfl ?_
      refine q_cz_ge (tgt := 22) (a := p) (b := 40) eX9_has_15 (by decide) (ofz hrp) (ofz (r32l rfl)) (fun c15 => ?_) (fun c15 => ?_)
      · have h := h.1 c15
        refine q_ic (v := Int32.ofInt 0) eX9_has_22 rfl ?_
        exact q_zret eX9_has_23 rfl (z01 (Or.inl rfl)) ⟨_, _, rfl, hA, (Or.inl rfl), rfl, h⟩
      · have h := h.2 c15
        refine q_ic (v := Int32.ofInt 1) eX9_has_18 rfl ?_
        refine q_goto (tgt := 23) eX9_has_19 (by decide) ?_
        exact q_zret eX9_has_23 rfl (z01 (Or.inr rfl)) ⟨_, _, rfl, hA, (Or.inr rfl), rfl, h⟩
def F_X9_has (t : Nat) (s : ST) (p : Int) : Int := (if p < 0 then 0 else (if s.1 t 1 ≤ p then 0 else (if 40 ≤ p then 0 else 1)))
theorem w_X9_has {t : Nat} {s : ST} {p : Int} : C_X9_has t s p (fun s' v => s' = s ∧ v = F_X9_has t s p) := by
  refine s_X9_has (fun ht hA hrp => ?_)
  refine ⟨fun e0 => ?_, fun e0 => ?_⟩
  · exact ⟨rfl, by unfold F_X9_has; rw [if_pos e0]⟩
  · refine ⟨fun e1 => ?_, fun e1 => ?_⟩
    · exact ⟨rfl, by unfold F_X9_has; rw [if_neg e0, if_pos e1]⟩
    · refine ⟨fun e2 => ?_, fun e2 => ?_⟩
      · exact ⟨rfl, by unfold F_X9_has; rw [if_neg e0, if_neg e1, if_pos e2]⟩
      · exact ⟨rfl, by unfold F_X9_has; rw [if_neg e0, if_neg e1, if_neg e2]⟩
theorem p_X9_has {t : Nat} {s : ST} {p : Int} : isT t → RA s → R32 p → q_met mX9_has (qs layX s) [.ref t, .int (Int32.ofInt p)] (fun σ r => (F_X9_has t s p = 0 ∨ F_X9_has t s p = 1) ∧ σ = qs layX s ∧ r = some (.int (Int32.ofInt (F_X9_has t s p)))) := fun ht hA hrp => q_met.mono ((w_X9_has).1 ht hA hrp) (by
  rintro _ _ ⟨s1, v1, rfl, h1, h2, rfl, rfl, rfl⟩
  exact ⟨h2, rfl, rfl⟩)
theorem n_X9_has {t : Nat} {s : ST} {p : Int} : ¬ F_X9_has t s p = 0 ↔ (¬ p < 0 ∧ (¬ s.1 t 1 ≤ p ∧ ¬ 40 ≤ p)) := by
  unfold F_X9_has
  first | omega | ((repeat' split) <;> simp_all) | ((repeat' split) <;> (simp_all <;> omega))
theorem eX0_kindNode_0 : decode cX0_kindNode 0 = .ok (.iconst 2, 1) := by decide +kernel
theorem eX0_kindNode_1 : decode cX0_kindNode 1 = .ok (.iload_n 0, 1) := by decide +kernel
theorem eX0_kindNode_2 : decode cX0_kindNode 2 = .ok (.imul, 1) := by decide +kernel
theorem eX0_kindNode_3 : decode cX0_kindNode 3 = .ok (.ireturn, 1) := by decide +kernel
def C_X0_kindNode (s : ST) (p : Int) (Q : ST → Int → Prop) : Prop := bx <| RA s → R32 p → q_met mX0_kindNode (qs layX s) [.int (Int32.ofInt p)] (PI layX Q)
theorem C_X0_kindNode.mono {s : ST} {p : Int} {Q Q' : ST → Int → Prop} (h : C_X0_kindNode s p Q) (hq : ∀ s v, Q s v → Q' s v) : C_X0_kindNode s p Q' := ⟨fun hA hrp => q_met.mono (h.1 hA hrp) (fun _ _ => PI.mono hq), trivial⟩
set_option maxRecDepth 20000 in
theorem s_X0_kindNode {s : ST} {p : Int} {Q : ST → Int → Prop} (h : RA s → R32 p → (R32 (2 * p) ∧ Q s (2 * p))) : C_X0_kindNode s p Q := by
  refine ⟨?_, trivial⟩
  intro hA hrp
  have h := h hA hrp
  refine q_enter (by decide) (Nat.le_of_ble_eq_true rfl) ?_
  refine q_ic (v := Int32.ofInt 2) eX0_kindNode_0 rfl ?_
  refine q_iload_n eX0_kindNode_1 rfl ?_
  refine z_imul eX0_kindNode_2 ?_
  have r1 := h.1
  have h := h.2
  exact q_iret eX0_kindNode_3 rfl ⟨_, _, rfl, hA, r1, rfl, h⟩
def F_X0_kindNode (s : ST) (p : Int) : Int := (2 * p)
abbrev P_X0_kindNode (s : ST) (p : Int) : Prop := R32 (2 * p)
theorem w_X0_kindNode {s : ST} {p : Int} (h : P_X0_kindNode s p) : C_X0_kindNode s p (fun s' v => s' = s ∧ v = F_X0_kindNode s p) := by
  refine s_X0_kindNode (fun hA hrp => ?_)
  unfold P_X0_kindNode at h
  refine ⟨h, ?_⟩
  exact ⟨rfl, rfl⟩
theorem p_X0_kindNode {s : ST} {p : Int} (h : P_X0_kindNode s p) : RA s → R32 p → q_met mX0_kindNode (qs layX s) [.int (Int32.ofInt p)] (fun σ r => R32 (F_X0_kindNode s p) ∧ σ = qs layX s ∧ r = some (.int (Int32.ofInt (F_X0_kindNode s p)))) := fun hA hrp => q_met.mono ((w_X0_kindNode h).1 hA hrp) (by
  rintro _ _ ⟨s1, v1, rfl, h1, h2, rfl, rfl, rfl⟩
  exact ⟨h2, rfl, rfl⟩)
theorem eX0_setPart_0 : decode cX0_setPart 0 = .ok (.iload_n 1, 1) := by decide +kernel
theorem eX0_setPart_1 : decode cX0_setPart 1 = .ok (.ifCond .lt 30, 3) := by decide +kernel
theorem eX0_setPart_4 : decode cX0_setPart 4 = .ok (.iload_n 1, 1) := by decide +kernel
theorem eX0_setPart_5 : decode cX0_setPart 5 = .ok (.sipush 400, 3) := by decide +kernel
theorem eX0_setPart_8 : decode cX0_setPart 8 = .ok (.if_icmp .ge 23, 3) := by decide +kernel
theorem eX0_setPart_11 : decode cX0_setPart 11 = .ok (.iload_n 2, 1) := by decide +kernel
theorem eX0_setPart_12 : decode cX0_setPart 12 = .ok (.ifCond .lt 19, 3) := by decide +kernel
theorem eX0_setPart_15 : decode cX0_setPart 15 = .ok (.iload_n 2, 1) := by decide +kernel
theorem eX0_setPart_16 : decode cX0_setPart 16 = .ok (.iconst 3, 1) := by decide +kernel
theorem eX0_setPart_17 : decode cX0_setPart 17 = .ok (.if_icmp .ge 14, 3) := by decide +kernel
theorem eX0_setPart_20 : decode cX0_setPart 20 = .ok (.aload_n 0, 1) := by decide +kernel
theorem eX0_setPart_21 : decode cX0_setPart 21 = .ok (.getfield 15, 3) := by decide +kernel
theorem eX0_setPart_24 : decode cX0_setPart 24 = .ok (.iconst 3, 1) := by decide +kernel
theorem eX0_setPart_25 : decode cX0_setPart 25 = .ok (.iload_n 1, 1) := by decide +kernel
theorem eX0_setPart_26 : decode cX0_setPart 26 = .ok (.imul, 1) := by decide +kernel
theorem eX0_setPart_27 : decode cX0_setPart 27 = .ok (.iload_n 2, 1) := by decide +kernel
theorem eX0_setPart_28 : decode cX0_setPart 28 = .ok (.iadd, 1) := by decide +kernel
theorem eX0_setPart_29 : decode cX0_setPart 29 = .ok (.iload_n 3, 1) := by decide +kernel
theorem eX0_setPart_30 : decode cX0_setPart 30 = .ok (.iastore, 1) := by decide +kernel
theorem eX0_setPart_31 : decode cX0_setPart 31 = .ok (.return_, 1) := by decide +kernel
def C_X0_setPart (a : Nat) (s : ST) (p : Int) (q : Int) (u : Int) (Q : ST → Prop) : Prop := bx <| isA a → RA s → R32 p → R32 q → R32 u → q_met mX0_setPart (qs layX s) [.ref a, .int (Int32.ofInt p), .int (Int32.ofInt q), .int (Int32.ofInt u)] (PV layX Q)
theorem C_X0_setPart.mono {a : Nat} {s : ST} {p : Int} {q : Int} {u : Int} {Q Q' : ST → Prop} (h : C_X0_setPart a s p q u Q) (hq : ∀ s, Q s → Q' s) : C_X0_setPart a s p q u Q' := ⟨fun ha hA hrp hrq hru => q_met.mono (h.1 ha hA hrp hrq hru) (fun _ _ => PV.mono hq), trivial⟩
set_option maxRecDepth 20000 in
theorem s_X0_setPart {a : Nat} {s : ST} {p : Int} {q : Int} {u : Int} {Q : ST → Prop} (h : isA a → RA s → R32 p → R32 q → R32 u → ((p < 0 → Q s) ∧ (¬ p < 0 → ((400 ≤ p → Q s) ∧ (¬ 400 ≤ p → ((q < 0 → Q s) ∧ (¬ q < 0 → ((3 ≤ q → Q s) ∧ (¬ 3 ≤ q → (R32 (3 * p) ∧ (R32 ((3 * p) + q) ∧ (((0 : Int) ≤ ((3 * p) + q) ∧ ((3 * p) + q) < 1200) ∧ Q (ui s (a + 2) ((3 * p) + q) u))))))))))))) : C_X0_setPart a s p q u Q := by
  refine ⟨?_, trivial⟩
  intro ha hA hrp hrq hru
  have h := h ha hA hrp hrq hru
  refine q_enter (by decide) (Nat.le_of_ble_eq_true rfl) ?_
  refine q_iload_n eX0_setPart_0 rfl ?_
  refine q_iz_lt (tgt := 31) (a := p) eX0_setPart_1 (by decide) (ofz hrp) (fun c1 => ?_) (fun c1 => ?_)
  · have h := h.1 c1
    exact q_ret eX0_setPart_31 rfl ⟨_, rfl, hA, rfl, h⟩
  · have h := h.2 c1
    refine q_iload_n eX0_setPart_4 rfl ?_
    refine q_si (v := Int32.ofInt 400) eX0_setPart_5 rfl ?_
    refine q_cz_ge (tgt := 31) (a := p) (b := 400) eX0_setPart_8 (by decide) (ofz hrp) (ofz (r32l rfl)) (fun c8 => ?_) (fun c8 => ?_)
    · have h := h.1 c8
      exact q_ret eX0_setPart_31 rfl ⟨_, rfl, hA, rfl, h⟩
    · have h := h.2 c8
      refine q_iload_n eX0_setPart_11 rfl ?_
      refine q_iz_lt (tgt := 31) (a := q) eX0_setPart_12 (by decide) (ofz hrq) (fun c12 => ?_) (fun c12 => ?_)
      · have h := h.1 c12
        exact q_ret eX0_setPart_31 rfl ⟨_, rfl, hA, rfl, h⟩
      · have h := h.2 c12
        refine q_iload_n eX0_setPart_15 rfl ?_
        refine q_ic (v := Int32.ofInt 3) eX0_setPart_16 rfl ?_
        refine q_cz_ge (tgt := 31) (a := q) (b := 3) eX0_setPart_17 (by decide) (ofz hrq) (ofz (r32l rfl)) (fun c17 => ?_) (fun c17 => ?_)
        · have h := h.1 c17
          exact q_ret eX0_setPart_31 rfl ⟨_, rfl, hA, rfl, h⟩
        · have h := h.2 c17
          refine q_aload_n eX0_setPart_20 rfl ?_
          refine q_getR (c := 0) (n := 0) (k := 9) (a := (a + 2)) eX0_setPart_21 (al_0 ha) (by decide) (by decide) fX0_15 rfl (ar_9 ha) ?_
          refine q_ic (v := Int32.ofInt 3) eX0_setPart_24 rfl ?_
          refine q_iload_n eX0_setPart_25 rfl ?_
          refine z_imul eX0_setPart_26 ?_
          have r1 := h.1
          have h := h.2
          refine q_iload_n eX0_setPart_27 rfl ?_
          refine z_iadd eX0_setPart_28 ?_
          have r2 := h.1
          have h := h.2
          refine q_iload_n eX0_setPart_29 rfl ?_
          have f3 := h.1
          have h := h.2
          refine z_iast (n := 1200) eX0_setPart_30 (al_2 ha) (ofz r2) f3  ?_
          exact q_ret eX0_setPart_31 rfl ⟨_, rfl, (ra_ui hA hru), rfl, h⟩
theorem eX9_sortOf_0 : decode cX9_sortOf 0 = .ok (.aload_n 0, 1) := by decide +kernel
theorem eX9_sortOf_1 : decode cX9_sortOf 1 = .ok (.iload_n 1, 1) := by decide +kernel
theorem eX9_sortOf_2 : decode cX9_sortOf 2 = .ok (.invokevirtual 71, 3) := by decide +kernel
theorem eX9_sortOf_5 : decode cX9_sortOf 5 = .ok (.ifCond .eq 12, 3) := by decide +kernel
theorem eX9_sortOf_8 : decode cX9_sortOf 8 = .ok (.aload_n 0, 1) := by decide +kernel
theorem eX9_sortOf_9 : decode cX9_sortOf 9 = .ok (.getfield 19, 3) := by decide +kernel
theorem eX9_sortOf_12 : decode cX9_sortOf 12 = .ok (.iload_n 1, 1) := by decide +kernel
theorem eX9_sortOf_13 : decode cX9_sortOf 13 = .ok (.iaload, 1) := by decide +kernel
theorem eX9_sortOf_14 : decode cX9_sortOf 14 = .ok (.goto 4, 3) := by decide +kernel
theorem eX9_sortOf_17 : decode cX9_sortOf 17 = .ok (.iconst (-1), 1) := by decide +kernel
theorem eX9_sortOf_18 : decode cX9_sortOf 18 = .ok (.ireturn, 1) := by decide +kernel
def C_X9_sortOf (t : Nat) (s : ST) (p : Int) (Q : ST → Int → Prop) : Prop := bx <| isT t → RA s → R32 p → q_met mX9_sortOf (qs layX s) [.ref t, .int (Int32.ofInt p)] (PI layX Q)
theorem C_X9_sortOf.mono {t : Nat} {s : ST} {p : Int} {Q Q' : ST → Int → Prop} (h : C_X9_sortOf t s p Q) (hq : ∀ s v, Q s v → Q' s v) : C_X9_sortOf t s p Q' := ⟨fun ht hA hrp => q_met.mono (h.1 ht hA hrp) (fun _ _ => PI.mono hq), trivial⟩
set_option maxRecDepth 20000 in
theorem s_X9_sortOf {t : Nat} {s : ST} {p : Int} {Q : ST → Int → Prop} (h : isT t → RA s → R32 p → ((¬ (¬ p < 0 ∧ (¬ s.1 t 1 ≤ p ∧ ¬ 40 ≤ p)) → Q s (-1)) ∧ ((¬ p < 0 ∧ (¬ s.1 t 1 ≤ p ∧ ¬ 40 ≤ p)) → (((0 : Int) ≤ p ∧ p < 40) ∧ Q s (s.1 (t + 3) p))))) : C_X9_sortOf t s p Q := by
  refine ⟨?_, trivial⟩
  intro ht hA hrp
  have h := h ht hA hrp
  refine q_enter (by decide) (Nat.le_of_ble_eq_true rfl) ?_
  refine q_aload_n eX9_sortOf_0 rfl ?_
  refine q_iload_n eX9_sortOf_1 rfl ?_
  refine q_V1 (ci := 9) (n := 0) eX9_sortOf_2 DX9_has lX9_71 (tl_0 ht) (by decide) rfl rfl rfl rfl (p_X9_has ht hA hrp) ?_
  rintro _ _ ⟨b1, rfl, rfl⟩
  refine q_iz_eq (tgt := 17) (a := (F_X9_has t s p)) eX9_sortOf_5 (by decide) (ofz (r01 b1)) (fun c5 => ?_) (fun c5 => ?_)
  · have h := h.1 (fun q => n_X9_has.mpr q c5)
    refine q_ic (v := Int32.ofInt (-1)) eX9_sortOf_17 rfl ?_
    exact q_iret eX9_sortOf_18 rfl ⟨_, _, rfl, hA, (r32l rfl), rfl, h⟩
  · have h := h.2 (n_X9_has.mp c5)
    refine q_aload_n eX9_sortOf_8 rfl ?_
    refine q_getR (c := 9) (n := 0) (k := 5) (a := (t + 3)) eX9_sortOf_9 (tl_0 ht) (by decide) (by decide) fX9_19 rfl (tr_5 ht) ?_
    refine q_iload_n eX9_sortOf_12 rfl ?_
    have f2 := h.1
    have h := h.2
    refine z_iald (n := 40) eX9_sortOf_13 (tl_3 ht) (ofz hrp) f2 ?_
    refine q_topI (v := Int32.ofInt (s.1 (t + 3) p)) rfl ?_
    refine q_goto (tgt := 18) eX9_sortOf_14 (by decide) ?_
    exact q_iret eX9_sortOf_18 rfl ⟨_, _, rfl, hA, (hA _ _), rfl, h⟩
def F_X9_sortOf (t : Nat) (s : ST) (p : Int) : Int := (if (¬ p < 0 ∧ (¬ s.1 t 1 ≤ p ∧ ¬ 40 ≤ p)) then s.1 (t + 3) p else (-1))
abbrev P_X9_sortOf (t : Nat) (s : ST) (p : Int) : Prop := ((¬ p < 0 ∧ (¬ s.1 t 1 ≤ p ∧ ¬ 40 ≤ p)) → ((0 : Int) ≤ p ∧ p < 40))
theorem w_X9_sortOf {t : Nat} {s : ST} {p : Int} (h : P_X9_sortOf t s p) : C_X9_sortOf t s p (fun s' v => s' = s ∧ v = F_X9_sortOf t s p) := by
  refine s_X9_sortOf (fun ht hA hrp => ?_)
  unfold P_X9_sortOf at h
  refine ⟨fun e0 => ?_, fun e0 => ?_⟩
  · exact ⟨rfl, by unfold F_X9_sortOf; rw [if_neg e0]⟩
  · have h := h e0
    refine ⟨h, ?_⟩
    exact ⟨rfl, by unfold F_X9_sortOf; rw [if_pos e0]⟩
theorem p_X9_sortOf {t : Nat} {s : ST} {p : Int} (h : P_X9_sortOf t s p) : isT t → RA s → R32 p → q_met mX9_sortOf (qs layX s) [.ref t, .int (Int32.ofInt p)] (fun σ r => R32 (F_X9_sortOf t s p) ∧ σ = qs layX s ∧ r = some (.int (Int32.ofInt (F_X9_sortOf t s p)))) := fun ht hA hrp => q_met.mono ((w_X9_sortOf h).1 ht hA hrp) (by
  rintro _ _ ⟨s1, v1, rfl, h1, h2, rfl, rfl, rfl⟩
  exact ⟨h2, rfl, rfl⟩)
theorem eX9_arityOf_0 : decode cX9_arityOf 0 = .ok (.aload_n 0, 1) := by decide +kernel
theorem eX9_arityOf_1 : decode cX9_arityOf 1 = .ok (.iload_n 1, 1) := by decide +kernel
theorem eX9_arityOf_2 : decode cX9_arityOf 2 = .ok (.invokevirtual 75, 3) := by decide +kernel
theorem eX9_arityOf_5 : decode cX9_arityOf 5 = .ok (.istore_n 2, 1) := by decide +kernel
theorem eX9_arityOf_6 : decode cX9_arityOf 6 = .ok (.iload_n 2, 1) := by decide +kernel
theorem eX9_arityOf_7 : decode cX9_arityOf 7 = .ok (.ifCond .lt 19, 3) := by decide +kernel
theorem eX9_arityOf_10 : decode cX9_arityOf 10 = .ok (.iload_n 2, 1) := by decide +kernel
theorem eX9_arityOf_11 : decode cX9_arityOf 11 = .ok (.getstatic 79, 3) := by decide +kernel
theorem eX9_arityOf_14 : decode cX9_arityOf 14 = .ok (.arraylength, 1) := by decide +kernel
theorem eX9_arityOf_15 : decode cX9_arityOf 15 = .ok (.if_icmp .ge 11, 3) := by decide +kernel
theorem eX9_arityOf_18 : decode cX9_arityOf 18 = .ok (.getstatic 79, 3) := by decide +kernel
theorem eX9_arityOf_21 : decode cX9_arityOf 21 = .ok (.iload_n 2, 1) := by decide +kernel
theorem eX9_arityOf_22 : decode cX9_arityOf 22 = .ok (.iaload, 1) := by decide +kernel
theorem eX9_arityOf_23 : decode cX9_arityOf 23 = .ok (.goto 4, 3) := by decide +kernel
theorem eX9_arityOf_26 : decode cX9_arityOf 26 = .ok (.iconst 0, 1) := by decide +kernel
theorem eX9_arityOf_27 : decode cX9_arityOf 27 = .ok (.ireturn, 1) := by decide +kernel
def C_X9_arityOf (t : Nat) (s : ST) (p : Int) (Q : ST → Int → Prop) : Prop := bx <| isT t → RA s → R32 p → q_met mX9_arityOf (qs layX s) [.ref t, .int (Int32.ofInt p)] (PI layX Q)
theorem C_X9_arityOf.mono {t : Nat} {s : ST} {p : Int} {Q Q' : ST → Int → Prop} (h : C_X9_arityOf t s p Q) (hq : ∀ s v, Q s v → Q' s v) : C_X9_arityOf t s p Q' := ⟨fun ht hA hrp => q_met.mono (h.1 ht hA hrp) (fun _ _ => PI.mono hq), trivial⟩
set_option maxRecDepth 20000 in
theorem s_X9_arityOf {t : Nat} {s : ST} {p : Int} {Q : ST → Int → Prop} (h : isT t → RA s → R32 p → (P_X9_sortOf t s p ∧ (((F_X9_sortOf t s p) < 0 → Q s 0) ∧ (¬ (F_X9_sortOf t s p) < 0 → ((17 ≤ (F_X9_sortOf t s p) → Q s 0) ∧ (¬ 17 ≤ (F_X9_sortOf t s p) → (((0 : Int) ≤ (F_X9_sortOf t s p) ∧ (F_X9_sortOf t s p) < 17) ∧ Q s (zarity (F_X9_sortOf t s p))))))))) : C_X9_arityOf t s p Q := by
  refine ⟨?_, trivial⟩
  intro ht hA hrp
  have h := h ht hA hrp
  refine q_enter (by decide) (Nat.le_of_ble_eq_true rfl) ?_
  refine q_aload_n eX9_arityOf_0 rfl ?_
  refine q_iload_n eX9_arityOf_1 rfl ?_
  have f2 := h.1
  have h := h.2
  refine q_V1 (ci := 9) (n := 0) eX9_arityOf_2 DX9_sortOf lX9_75 (tl_0 ht) (by decide) rfl rfl rfl rfl (p_X9_sortOf f2 ht hA hrp) ?_
  rintro _ _ ⟨r1, rfl, rfl⟩
  refine q_istore_n eX9_arityOf_5 (Nat.le_of_ble_eq_true rfl) ?_
  refine q_iload_n eX9_arityOf_6 rfl ?_
  refine q_iz_lt (tgt := 26) (a := (F_X9_sortOf t s p)) eX9_arityOf_7 (by decide) (ofz r1) (fun c7 => ?_) (fun c7 => ?_)
  · have h := h.1 c7
    refine q_ic (v := Int32.ofInt 0) eX9_arityOf_26 rfl ?_
    exact q_iret eX9_arityOf_27 rfl ⟨_, _, rfl, hA, (r32l rfl), rfl, h⟩
  · have h := h.2 c7
    refine q_iload_n eX9_arityOf_10 rfl ?_
    refine q_gets0 eX9_arityOf_11 rfl ?_
    refine q_tlen0 eX9_arityOf_14 ?_
    refine q_topI (v := Int32.ofInt 17) rfl ?_
    refine q_cz_ge (tgt := 26) (a := (F_X9_sortOf t s p)) (b := 17) eX9_arityOf_15 (by decide) (ofz r1) (ofz (r32l rfl)) (fun c15 => ?_) (fun c15 => ?_)
    · have h := h.1 c15
      refine q_ic (v := Int32.ofInt 0) eX9_arityOf_26 rfl ?_
      exact q_iret eX9_arityOf_27 rfl ⟨_, _, rfl, hA, (r32l rfl), rfl, h⟩
    · have h := h.2 c15
      refine q_gets0 eX9_arityOf_18 rfl ?_
      refine q_iload_n eX9_arityOf_21 rfl ?_
      have f3 := h.1
      have h := h.2
      refine q_tald0z eX9_arityOf_22 (ofz r1) f3.1 f3.2 ?_
      refine q_topI (v := Int32.ofInt (zarity (F_X9_sortOf t s p))) (zarity_v _) ?_
      refine q_goto (tgt := 27) eX9_arityOf_23 (by decide) ?_
      exact q_iret eX9_arityOf_27 rfl ⟨_, _, rfl, hA, (zarity_r _), rfl, h⟩
def F_X9_arityOf (t : Nat) (s : ST) (p : Int) : Int := (if (F_X9_sortOf t s p) < 0 then 0 else (if 17 ≤ (F_X9_sortOf t s p) then 0 else (zarity (F_X9_sortOf t s p))))
abbrev P_X9_arityOf (t : Nat) (s : ST) (p : Int) : Prop := (P_X9_sortOf t s p ∧ (¬ (F_X9_sortOf t s p) < 0 → (¬ 17 ≤ (F_X9_sortOf t s p) → ((0 : Int) ≤ (F_X9_sortOf t s p) ∧ (F_X9_sortOf t s p) < 17))))
theorem w_X9_arityOf {t : Nat} {s : ST} {p : Int} (h : P_X9_arityOf t s p) : C_X9_arityOf t s p (fun s' v => s' = s ∧ v = F_X9_arityOf t s p) := by
  refine s_X9_arityOf (fun ht hA hrp => ?_)
  unfold P_X9_arityOf at h
  refine ⟨h.1, ?_⟩
  have h := h.2
  refine ⟨fun e0 => ?_, fun e0 => ?_⟩
  · exact ⟨rfl, by unfold F_X9_arityOf; rw [if_pos e0]⟩
  · have h := h e0
    refine ⟨fun e1 => ?_, fun e1 => ?_⟩
    · exact ⟨rfl, by unfold F_X9_arityOf; rw [if_neg e0, if_pos e1]⟩
    · have h := h e1
      refine ⟨h, ?_⟩
      exact ⟨rfl, by unfold F_X9_arityOf; rw [if_neg e0, if_neg e1]⟩
theorem p_X9_arityOf {t : Nat} {s : ST} {p : Int} (h : P_X9_arityOf t s p) : isT t → RA s → R32 p → q_met mX9_arityOf (qs layX s) [.ref t, .int (Int32.ofInt p)] (fun σ r => R32 (F_X9_arityOf t s p) ∧ σ = qs layX s ∧ r = some (.int (Int32.ofInt (F_X9_arityOf t s p)))) := fun ht hA hrp => q_met.mono ((w_X9_arityOf h).1 ht hA hrp) (by
  rintro _ _ ⟨s1, v1, rfl, h1, h2, rfl, rfl, rfl⟩
  exact ⟨h2, rfl, rfl⟩)
theorem eX9_kidOf_0 : decode cX9_kidOf 0 = .ok (.aload_n 0, 1) := by decide +kernel
theorem eX9_kidOf_1 : decode cX9_kidOf 1 = .ok (.iload_n 1, 1) := by decide +kernel
theorem eX9_kidOf_2 : decode cX9_kidOf 2 = .ok (.invokevirtual 71, 3) := by decide +kernel
theorem eX9_kidOf_5 : decode cX9_kidOf 5 = .ok (.ifCond .eq 25, 3) := by decide +kernel
theorem eX9_kidOf_8 : decode cX9_kidOf 8 = .ok (.iload_n 2, 1) := by decide +kernel
theorem eX9_kidOf_9 : decode cX9_kidOf 9 = .ok (.ifCond .lt 21, 3) := by decide +kernel
theorem eX9_kidOf_12 : decode cX9_kidOf 12 = .ok (.iload_n 2, 1) := by decide +kernel
theorem eX9_kidOf_13 : decode cX9_kidOf 13 = .ok (.iconst 3, 1) := by decide +kernel
theorem eX9_kidOf_14 : decode cX9_kidOf 14 = .ok (.if_icmp .ge 16, 3) := by decide +kernel
theorem eX9_kidOf_17 : decode cX9_kidOf 17 = .ok (.aload_n 0, 1) := by decide +kernel
theorem eX9_kidOf_18 : decode cX9_kidOf 18 = .ok (.getfield 37, 3) := by decide +kernel
theorem eX9_kidOf_21 : decode cX9_kidOf 21 = .ok (.iconst 3, 1) := by decide +kernel
theorem eX9_kidOf_22 : decode cX9_kidOf 22 = .ok (.iload_n 1, 1) := by decide +kernel
theorem eX9_kidOf_23 : decode cX9_kidOf 23 = .ok (.imul, 1) := by decide +kernel
theorem eX9_kidOf_24 : decode cX9_kidOf 24 = .ok (.iload_n 2, 1) := by decide +kernel
theorem eX9_kidOf_25 : decode cX9_kidOf 25 = .ok (.iadd, 1) := by decide +kernel
theorem eX9_kidOf_26 : decode cX9_kidOf 26 = .ok (.iaload, 1) := by decide +kernel
theorem eX9_kidOf_27 : decode cX9_kidOf 27 = .ok (.goto 4, 3) := by decide +kernel
theorem eX9_kidOf_30 : decode cX9_kidOf 30 = .ok (.iconst (-1), 1) := by decide +kernel
theorem eX9_kidOf_31 : decode cX9_kidOf 31 = .ok (.ireturn, 1) := by decide +kernel
def C_X9_kidOf (t : Nat) (s : ST) (p : Int) (q : Int) (Q : ST → Int → Prop) : Prop := bx <| isT t → RA s → R32 p → R32 q → q_met mX9_kidOf (qs layX s) [.ref t, .int (Int32.ofInt p), .int (Int32.ofInt q)] (PI layX Q)
theorem C_X9_kidOf.mono {t : Nat} {s : ST} {p : Int} {q : Int} {Q Q' : ST → Int → Prop} (h : C_X9_kidOf t s p q Q) (hq : ∀ s v, Q s v → Q' s v) : C_X9_kidOf t s p q Q' := ⟨fun ht hA hrp hrq => q_met.mono (h.1 ht hA hrp hrq) (fun _ _ => PI.mono hq), trivial⟩
set_option maxRecDepth 20000 in
theorem s_X9_kidOf {t : Nat} {s : ST} {p : Int} {q : Int} {Q : ST → Int → Prop} (h : isT t → RA s → R32 p → R32 q → ((¬ (¬ p < 0 ∧ (¬ s.1 t 1 ≤ p ∧ ¬ 40 ≤ p)) → Q s (-1)) ∧ ((¬ p < 0 ∧ (¬ s.1 t 1 ≤ p ∧ ¬ 40 ≤ p)) → ((q < 0 → Q s (-1)) ∧ (¬ q < 0 → ((3 ≤ q → Q s (-1)) ∧ (¬ 3 ≤ q → (R32 (3 * p) ∧ (R32 ((3 * p) + q) ∧ (((0 : Int) ≤ ((3 * p) + q) ∧ ((3 * p) + q) < 120) ∧ Q s (s.1 (t + 9) ((3 * p) + q)))))))))))) : C_X9_kidOf t s p q Q := by
  refine ⟨?_, trivial⟩
  intro ht hA hrp hrq
  have h := h ht hA hrp hrq
  refine q_enter (by decide) (Nat.le_of_ble_eq_true rfl) ?_
  refine q_aload_n eX9_kidOf_0 rfl ?_
  refine q_iload_n eX9_kidOf_1 rfl ?_
  refine q_V1 (ci := 9) (n := 0) eX9_kidOf_2 DX9_has lX9_71 (tl_0 ht) (by decide) rfl rfl rfl rfl (p_X9_has ht hA hrp) ?_
  rintro _ _ ⟨b1, rfl, rfl⟩
  refine q_iz_eq (tgt := 30) (a := (F_X9_has t s p)) eX9_kidOf_5 (by decide) (ofz (r01 b1)) (fun c5 => ?_) (fun c5 => ?_)
  · have h := h.1 (fun q => n_X9_has.mpr q c5)
    refine q_ic (v := Int32.ofInt (-1)) eX9_kidOf_30 rfl ?_
    exact q_iret eX9_kidOf_31 rfl ⟨_, _, rfl, hA, (r32l rfl), rfl, h⟩
  · have h := h.2 (n_X9_has.mp c5)
    refine q_iload_n eX9_kidOf_8 rfl ?_
    refine q_iz_lt (tgt := 30) (a := q) eX9_kidOf_9 (by decide) (ofz hrq) (fun c9 => ?_) (fun c9 => ?_)
    · have h := h.1 c9
      refine q_ic (v := Int32.ofInt (-1)) eX9_kidOf_30 rfl ?_
      exact q_iret eX9_kidOf_31 rfl ⟨_, _, rfl, hA, (r32l rfl), rfl, h⟩
    · have h := h.2 c9
      refine q_iload_n eX9_kidOf_12 rfl ?_
      refine q_ic (v := Int32.ofInt 3) eX9_kidOf_13 rfl ?_
      refine q_cz_ge (tgt := 30) (a := q) (b := 3) eX9_kidOf_14 (by decide) (ofz hrq) (ofz (r32l rfl)) (fun c14 => ?_) (fun c14 => ?_)
      · have h := h.1 c14
        refine q_ic (v := Int32.ofInt (-1)) eX9_kidOf_30 rfl ?_
        exact q_iret eX9_kidOf_31 rfl ⟨_, _, rfl, hA, (r32l rfl), rfl, h⟩
      · have h := h.2 c14
        refine q_aload_n eX9_kidOf_17 rfl ?_
        refine q_getR (c := 9) (n := 0) (k := 11) (a := (t + 9)) eX9_kidOf_18 (tl_0 ht) (by decide) (by decide) fX9_37 rfl (tr_11 ht) ?_
        refine q_ic (v := Int32.ofInt 3) eX9_kidOf_21 rfl ?_
        refine q_iload_n eX9_kidOf_22 rfl ?_
        refine z_imul eX9_kidOf_23 ?_
        have r2 := h.1
        have h := h.2
        refine q_iload_n eX9_kidOf_24 rfl ?_
        refine z_iadd eX9_kidOf_25 ?_
        have r3 := h.1
        have h := h.2
        have f4 := h.1
        have h := h.2
        refine z_iald (n := 120) eX9_kidOf_26 (tl_9 ht) (ofz r3) f4 ?_
        refine q_topI (v := Int32.ofInt (s.1 (t + 9) ((3 * p) + q))) rfl ?_
        refine q_goto (tgt := 31) eX9_kidOf_27 (by decide) ?_
        exact q_iret eX9_kidOf_31 rfl ⟨_, _, rfl, hA, (hA _ _), rfl, h⟩
def F_X9_kidOf (t : Nat) (s : ST) (p : Int) (q : Int) : Int := (if (¬ p < 0 ∧ (¬ s.1 t 1 ≤ p ∧ ¬ 40 ≤ p)) then (if q < 0 then (-1) else (if 3 ≤ q then (-1) else s.1 (t + 9) ((3 * p) + q))) else (-1))
abbrev P_X9_kidOf (t : Nat) (s : ST) (p : Int) (q : Int) : Prop := ((¬ p < 0 ∧ (¬ s.1 t 1 ≤ p ∧ ¬ 40 ≤ p)) → (¬ q < 0 → (¬ 3 ≤ q → (R32 (3 * p) ∧ R32 ((3 * p) + q) ∧ ((0 : Int) ≤ ((3 * p) + q) ∧ ((3 * p) + q) < 120)))))
theorem w_X9_kidOf {t : Nat} {s : ST} {p : Int} {q : Int} (h : P_X9_kidOf t s p q) : C_X9_kidOf t s p q (fun s' v => s' = s ∧ v = F_X9_kidOf t s p q) := by
  refine s_X9_kidOf (fun ht hA hrp hrq => ?_)
  unfold P_X9_kidOf at h
  refine ⟨fun e0 => ?_, fun e0 => ?_⟩
  · exact ⟨rfl, by unfold F_X9_kidOf; rw [if_neg e0]⟩
  · have h := h e0
    refine ⟨fun e1 => ?_, fun e1 => ?_⟩
    · exact ⟨rfl, by unfold F_X9_kidOf; rw [if_pos e0, if_pos e1]⟩
    · have h := h e1
      refine ⟨fun e2 => ?_, fun e2 => ?_⟩
      · exact ⟨rfl, by unfold F_X9_kidOf; rw [if_pos e0, if_neg e1, if_pos e2]⟩
      · have h := h e2
        refine ⟨h.1, ?_⟩
        have h := h.2
        refine ⟨h.1, ?_⟩
        have h := h.2
        refine ⟨h, ?_⟩
        exact ⟨rfl, by unfold F_X9_kidOf; rw [if_pos e0, if_neg e1, if_neg e2]⟩
theorem p_X9_kidOf {t : Nat} {s : ST} {p : Int} {q : Int} (h : P_X9_kidOf t s p q) : isT t → RA s → R32 p → R32 q → q_met mX9_kidOf (qs layX s) [.ref t, .int (Int32.ofInt p), .int (Int32.ofInt q)] (fun σ r => R32 (F_X9_kidOf t s p q) ∧ σ = qs layX s ∧ r = some (.int (Int32.ofInt (F_X9_kidOf t s p q)))) := fun ht hA hrp hrq => q_met.mono ((w_X9_kidOf h).1 ht hA hrp hrq) (by
  rintro _ _ ⟨s1, v1, rfl, h1, h2, rfl, rfl, rfl⟩
  exact ⟨h2, rfl, rfl⟩)
theorem eX9_targetOf_0 : decode cX9_targetOf 0 = .ok (.aload_n 0, 1) := by decide +kernel
theorem eX9_targetOf_1 : decode cX9_targetOf 1 = .ok (.iload_n 1, 1) := by decide +kernel
theorem eX9_targetOf_2 : decode cX9_targetOf 2 = .ok (.invokevirtual 71, 3) := by decide +kernel
theorem eX9_targetOf_5 : decode cX9_targetOf 5 = .ok (.ifCond .eq 12, 3) := by decide +kernel
theorem eX9_targetOf_8 : decode cX9_targetOf 8 = .ok (.aload_n 0, 1) := by decide +kernel
theorem eX9_targetOf_9 : decode cX9_targetOf 9 = .ok (.getfield 43, 3) := by decide +kernel
theorem eX9_targetOf_12 : decode cX9_targetOf 12 = .ok (.iload_n 1, 1) := by decide +kernel
theorem eX9_targetOf_13 : decode cX9_targetOf 13 = .ok (.iaload, 1) := by decide +kernel
theorem eX9_targetOf_14 : decode cX9_targetOf 14 = .ok (.goto 4, 3) := by decide +kernel
theorem eX9_targetOf_17 : decode cX9_targetOf 17 = .ok (.iconst (-1), 1) := by decide +kernel
theorem eX9_targetOf_18 : decode cX9_targetOf 18 = .ok (.ireturn, 1) := by decide +kernel
def C_X9_targetOf (t : Nat) (s : ST) (p : Int) (Q : ST → Int → Prop) : Prop := bx <| isT t → RA s → R32 p → q_met mX9_targetOf (qs layX s) [.ref t, .int (Int32.ofInt p)] (PI layX Q)
theorem C_X9_targetOf.mono {t : Nat} {s : ST} {p : Int} {Q Q' : ST → Int → Prop} (h : C_X9_targetOf t s p Q) (hq : ∀ s v, Q s v → Q' s v) : C_X9_targetOf t s p Q' := ⟨fun ht hA hrp => q_met.mono (h.1 ht hA hrp) (fun _ _ => PI.mono hq), trivial⟩
set_option maxRecDepth 20000 in
theorem s_X9_targetOf {t : Nat} {s : ST} {p : Int} {Q : ST → Int → Prop} (h : isT t → RA s → R32 p → ((¬ (¬ p < 0 ∧ (¬ s.1 t 1 ≤ p ∧ ¬ 40 ≤ p)) → Q s (-1)) ∧ ((¬ p < 0 ∧ (¬ s.1 t 1 ≤ p ∧ ¬ 40 ≤ p)) → (((0 : Int) ≤ p ∧ p < 40) ∧ Q s (s.1 (t + 11) p))))) : C_X9_targetOf t s p Q := by
  refine ⟨?_, trivial⟩
  intro ht hA hrp
  have h := h ht hA hrp
  refine q_enter (by decide) (Nat.le_of_ble_eq_true rfl) ?_
  refine q_aload_n eX9_targetOf_0 rfl ?_
  refine q_iload_n eX9_targetOf_1 rfl ?_
  refine q_V1 (ci := 9) (n := 0) eX9_targetOf_2 DX9_has lX9_71 (tl_0 ht) (by decide) rfl rfl rfl rfl (p_X9_has ht hA hrp) ?_
  rintro _ _ ⟨b1, rfl, rfl⟩
  refine q_iz_eq (tgt := 17) (a := (F_X9_has t s p)) eX9_targetOf_5 (by decide) (ofz (r01 b1)) (fun c5 => ?_) (fun c5 => ?_)
  · have h := h.1 (fun q => n_X9_has.mpr q c5)
    refine q_ic (v := Int32.ofInt (-1)) eX9_targetOf_17 rfl ?_
    exact q_iret eX9_targetOf_18 rfl ⟨_, _, rfl, hA, (r32l rfl), rfl, h⟩
  · have h := h.2 (n_X9_has.mp c5)
    refine q_aload_n eX9_targetOf_8 rfl ?_
    refine q_getR (c := 9) (n := 0) (k := 13) (a := (t + 11)) eX9_targetOf_9 (tl_0 ht) (by decide) (by decide) fX9_43 rfl (tr_13 ht) ?_
    refine q_iload_n eX9_targetOf_12 rfl ?_
    have f2 := h.1
    have h := h.2
    refine z_iald (n := 40) eX9_targetOf_13 (tl_11 ht) (ofz hrp) f2 ?_
    refine q_topI (v := Int32.ofInt (s.1 (t + 11) p)) rfl ?_
    refine q_goto (tgt := 18) eX9_targetOf_14 (by decide) ?_
    exact q_iret eX9_targetOf_18 rfl ⟨_, _, rfl, hA, (hA _ _), rfl, h⟩
def F_X9_targetOf (t : Nat) (s : ST) (p : Int) : Int := (if (¬ p < 0 ∧ (¬ s.1 t 1 ≤ p ∧ ¬ 40 ≤ p)) then s.1 (t + 11) p else (-1))
abbrev P_X9_targetOf (t : Nat) (s : ST) (p : Int) : Prop := ((¬ p < 0 ∧ (¬ s.1 t 1 ≤ p ∧ ¬ 40 ≤ p)) → ((0 : Int) ≤ p ∧ p < 40))
theorem w_X9_targetOf {t : Nat} {s : ST} {p : Int} (h : P_X9_targetOf t s p) : C_X9_targetOf t s p (fun s' v => s' = s ∧ v = F_X9_targetOf t s p) := by
  refine s_X9_targetOf (fun ht hA hrp => ?_)
  unfold P_X9_targetOf at h
  refine ⟨fun e0 => ?_, fun e0 => ?_⟩
  · exact ⟨rfl, by unfold F_X9_targetOf; rw [if_neg e0]⟩
  · have h := h e0
    refine ⟨h, ?_⟩
    exact ⟨rfl, by unfold F_X9_targetOf; rw [if_pos e0]⟩
theorem p_X9_targetOf {t : Nat} {s : ST} {p : Int} (h : P_X9_targetOf t s p) : isT t → RA s → R32 p → q_met mX9_targetOf (qs layX s) [.ref t, .int (Int32.ofInt p)] (fun σ r => R32 (F_X9_targetOf t s p) ∧ σ = qs layX s ∧ r = some (.int (Int32.ofInt (F_X9_targetOf t s p)))) := fun ht hA hrp => q_met.mono ((w_X9_targetOf h).1 ht hA hrp) (by
  rintro _ _ ⟨s1, v1, rfl, h1, h2, rfl, rfl, rfl⟩
  exact ⟨h2, rfl, rfl⟩)
theorem eX9_meantBy_0 : decode cX9_meantBy 0 = .ok (.aload_n 0, 1) := by decide +kernel
theorem eX9_meantBy_1 : decode cX9_meantBy 1 = .ok (.iload_n 1, 1) := by decide +kernel
theorem eX9_meantBy_2 : decode cX9_meantBy 2 = .ok (.invokevirtual 82, 3) := by decide +kernel
theorem eX9_meantBy_5 : decode cX9_meantBy 5 = .ok (.istore_n 2, 1) := by decide +kernel
theorem eX9_meantBy_6 : decode cX9_meantBy 6 = .ok (.iload_n 2, 1) := by decide +kernel
theorem eX9_meantBy_7 : decode cX9_meantBy 7 = .ok (.bipush 40, 2) := by decide +kernel
theorem eX9_meantBy_9 : decode cX9_meantBy 9 = .ok (.if_icmp .lt 12, 3) := by decide +kernel
theorem eX9_meantBy_12 : decode cX9_meantBy 12 = .ok (.aload_n 0, 1) := by decide +kernel
theorem eX9_meantBy_13 : decode cX9_meantBy 13 = .ok (.iload_n 2, 1) := by decide +kernel
theorem eX9_meantBy_14 : decode cX9_meantBy 14 = .ok (.bipush 40, 2) := by decide +kernel
theorem eX9_meantBy_16 : decode cX9_meantBy 16 = .ok (.isub, 1) := by decide +kernel
theorem eX9_meantBy_17 : decode cX9_meantBy 17 = .ok (.invokevirtual 85, 3) := by decide +kernel
theorem eX9_meantBy_20 : decode cX9_meantBy 20 = .ok (.ireturn, 1) := by decide +kernel
theorem eX9_meantBy_21 : decode cX9_meantBy 21 = .ok (.aload_n 0, 1) := by decide +kernel
theorem eX9_meantBy_22 : decode cX9_meantBy 22 = .ok (.iload_n 2, 1) := by decide +kernel
theorem eX9_meantBy_23 : decode cX9_meantBy 23 = .ok (.invokevirtual 75, 3) := by decide +kernel
theorem eX9_meantBy_26 : decode cX9_meantBy 26 = .ok (.iconst 4, 1) := by decide +kernel
theorem eX9_meantBy_27 : decode cX9_meantBy 27 = .ok (.if_icmp .ne 12, 3) := by decide +kernel
theorem eX9_meantBy_30 : decode cX9_meantBy 30 = .ok (.aload_n 0, 1) := by decide +kernel
theorem eX9_meantBy_31 : decode cX9_meantBy 31 = .ok (.iload_n 2, 1) := by decide +kernel
theorem eX9_meantBy_32 : decode cX9_meantBy 32 = .ok (.iconst 0, 1) := by decide +kernel
theorem eX9_meantBy_33 : decode cX9_meantBy 33 = .ok (.invokevirtual 88, 3) := by decide +kernel
theorem eX9_meantBy_36 : decode cX9_meantBy 36 = .ok (.goto 4, 3) := by decide +kernel
theorem eX9_meantBy_39 : decode cX9_meantBy 39 = .ok (.iconst (-1), 1) := by decide +kernel
theorem eX9_meantBy_40 : decode cX9_meantBy 40 = .ok (.ireturn, 1) := by decide +kernel
def C_X9_meantBy (t : Nat) (s : ST) (p : Int) (Q : ST → Int → Prop) : Prop := bx <| isT t → RA s → R32 p → q_met mX9_meantBy (qs layX s) [.ref t, .int (Int32.ofInt p)] (PI layX Q)
theorem C_X9_meantBy.mono {t : Nat} {s : ST} {p : Int} {Q Q' : ST → Int → Prop} (h : C_X9_meantBy t s p Q) (hq : ∀ s v, Q s v → Q' s v) : C_X9_meantBy t s p Q' := ⟨fun ht hA hrp => q_met.mono (h.1 ht hA hrp) (fun _ _ => PI.mono hq), trivial⟩
set_option maxRecDepth 20000 in
theorem s_X9_meantBy {t : Nat} {s : ST} {p : Int} {Q : ST → Int → Prop} (h : isT t → RA s → R32 p → (P_X9_targetOf t s p ∧ (((F_X9_targetOf t s p) < 40 → (P_X9_sortOf t s (F_X9_targetOf t s p) ∧ ((¬ (F_X9_sortOf t s (F_X9_targetOf t s p)) = 4 → Q s (-1)) ∧ ((F_X9_sortOf t s (F_X9_targetOf t s p)) = 4 → (P_X9_kidOf t s (F_X9_targetOf t s p) 0 ∧ Q s (F_X9_kidOf t s (F_X9_targetOf t s p) 0)))))) ∧ (¬ (F_X9_targetOf t s p) < 40 → (P_X9_rootOf t s (w32 ((F_X9_targetOf t s p) - 40)) ∧ Q s (F_X9_rootOf t s (w32 ((F_X9_targetOf t s p) - 40)))))))) : C_X9_meantBy t s p Q := by
  refine ⟨?_, trivial⟩
  intro ht hA hrp
  have h := h ht hA hrp
  refine q_enter (by decide) (Nat.le_of_ble_eq_true rfl) ?_
  refine q_aload_n eX9_meantBy_0 rfl ?_
  refine q_iload_n eX9_meantBy_1 rfl ?_
  have f2 := h.1
  have h := h.2
  refine q_V1 (ci := 9) (n := 0) eX9_meantBy_2 DX9_targetOf lX9_82 (tl_0 ht) (by decide) rfl rfl rfl rfl (p_X9_targetOf f2 ht hA hrp) ?_
  rintro _ _ ⟨r1, rfl, rfl⟩
  refine q_istore_n eX9_meantBy_5 (Nat.le_of_ble_eq_true rfl) ?_
  refine q_iload_n eX9_meantBy_6 rfl ?_
  refine q_bi (v := Int32.ofInt 40) eX9_meantBy_7 rfl ?_
  refine q_cz_lt (tgt := 21) (a := (F_X9_targetOf t s p)) (b := 40) eX9_meantBy_9 (by decide) (ofz r1) (ofz (r32l rfl)) (fun c9 => ?_) (fun c9 => ?_)
  · have h := h.1 c9
    refine q_aload_n eX9_meantBy_21 rfl ?_
    refine q_iload_n eX9_meantBy_22 rfl ?_
    have f4 := h.1
    have h := h.2
    refine q_V1 (ci := 9) (n := 0) eX9_meantBy_23 DX9_sortOf lX9_75 (tl_0 ht) (by decide) rfl rfl rfl rfl (p_X9_sortOf f4 ht hA r1) ?_
    rintro _ _ ⟨r3, rfl, rfl⟩
    refine q_ic (v := Int32.ofInt 4) eX9_meantBy_26 rfl ?_
    refine q_cz_ne (tgt := 39) (a := (F_X9_sortOf t s (F_X9_targetOf t s p))) (b := 4) eX9_meantBy_27 (by decide) (ofz r3) (ofz (r32l rfl)) (fun c27 => ?_) (fun c27 => ?_)
    · have h := h.1 c27
      refine q_ic (v := Int32.ofInt (-1)) eX9_meantBy_39 rfl ?_
      exact q_iret eX9_meantBy_40 rfl ⟨_, _, rfl, hA, (r32l rfl), rfl, h⟩
    · have h := h.2 c27
      refine q_aload_n eX9_meantBy_30 rfl ?_
      refine q_iload_n eX9_meantBy_31 rfl ?_
      refine q_ic (v := Int32.ofInt 0) eX9_meantBy_32 rfl ?_
      have f6 := h.1
      have h := h.2
      refine q_V2 (ci := 9) (n := 0) eX9_meantBy_33 DX9_kidOf lX9_88 (tl_0 ht) (by decide) rfl rfl rfl rfl (p_X9_kidOf f6 ht hA r1 (r32l rfl)) ?_
      rintro _ _ ⟨r5, rfl, rfl⟩
      refine q_goto (tgt := 40) eX9_meantBy_36 (by decide) ?_
      exact q_iret eX9_meantBy_40 rfl ⟨_, _, rfl, hA, r5, rfl, h⟩
  · have h := h.2 c9
    refine q_aload_n eX9_meantBy_12 rfl ?_
    refine q_iload_n eX9_meantBy_13 rfl ?_
    refine q_bi (v := Int32.ofInt 40) eX9_meantBy_14 rfl ?_
    refine z_isub eX9_meantBy_16 ?_
    refine q_topI (v := Int32.ofInt (w32 ((F_X9_targetOf t s p) - 40))) (w32_of _).symm ?_
    have f8 := h.1
    have h := h.2
    refine q_V1 (ci := 9) (n := 0) eX9_meantBy_17 DX9_rootOf lX9_85 (tl_0 ht) (by decide) rfl rfl rfl rfl (p_X9_rootOf f8 ht hA (w32_r _)) ?_
    rintro _ _ ⟨r7, rfl, rfl⟩
    exact q_iret eX9_meantBy_20 rfl ⟨_, _, rfl, hA, r7, rfl, h⟩
def F_X9_meantBy (t : Nat) (s : ST) (p : Int) : Int := (if (F_X9_targetOf t s p) < 40 then (if (F_X9_sortOf t s (F_X9_targetOf t s p)) = 4 then (F_X9_kidOf t s (F_X9_targetOf t s p) 0) else (-1)) else (F_X9_rootOf t s (w32 ((F_X9_targetOf t s p) - 40))))
abbrev P_X9_meantBy (t : Nat) (s : ST) (p : Int) : Prop := (P_X9_targetOf t s p ∧ (((F_X9_targetOf t s p) < 40 → (P_X9_sortOf t s (F_X9_targetOf t s p) ∧ ((F_X9_sortOf t s (F_X9_targetOf t s p)) = 4 → P_X9_kidOf t s (F_X9_targetOf t s p) 0))) ∧ (¬ (F_X9_targetOf t s p) < 40 → P_X9_rootOf t s (w32 ((F_X9_targetOf t s p) - 40)))))
theorem w_X9_meantBy {t : Nat} {s : ST} {p : Int} (h : P_X9_meantBy t s p) : C_X9_meantBy t s p (fun s' v => s' = s ∧ v = F_X9_meantBy t s p) := by
  refine s_X9_meantBy (fun ht hA hrp => ?_)
  unfold P_X9_meantBy at h
  refine ⟨h.1, ?_⟩
  have h := h.2
  refine ⟨fun e0 => ?_, fun e0 => ?_⟩
  · have h := h.1 e0
    refine ⟨h.1, ?_⟩
    have h := h.2
    refine ⟨fun e1 => ?_, fun e1 => ?_⟩
    · exact ⟨rfl, by unfold F_X9_meantBy; rw [if_pos e0, if_neg e1]⟩
    · have h := h e1
      refine ⟨h, ?_⟩
      exact ⟨rfl, by unfold F_X9_meantBy; rw [if_pos e0, if_pos e1]⟩
  · have h := h.2 e0
    refine ⟨h, ?_⟩
    exact ⟨rfl, by unfold F_X9_meantBy; rw [if_neg e0]⟩
theorem p_X9_meantBy {t : Nat} {s : ST} {p : Int} (h : P_X9_meantBy t s p) : isT t → RA s → R32 p → q_met mX9_meantBy (qs layX s) [.ref t, .int (Int32.ofInt p)] (fun σ r => R32 (F_X9_meantBy t s p) ∧ σ = qs layX s ∧ r = some (.int (Int32.ofInt (F_X9_meantBy t s p)))) := fun ht hA hrp => q_met.mono ((w_X9_meantBy h).1 ht hA hrp) (by
  rintro _ _ ⟨s1, v1, rfl, h1, h2, rfl, rfl, rfl⟩
  exact ⟨h2, rfl, rfl⟩)
theorem eX0_boundNode_0 : decode cX0_boundNode 0 = .ok (.iconst 2, 1) := by decide +kernel
theorem eX0_boundNode_1 : decode cX0_boundNode 1 = .ok (.iload_n 0, 1) := by decide +kernel
theorem eX0_boundNode_2 : decode cX0_boundNode 2 = .ok (.imul, 1) := by decide +kernel
theorem eX0_boundNode_3 : decode cX0_boundNode 3 = .ok (.iconst 1, 1) := by decide +kernel
theorem eX0_boundNode_4 : decode cX0_boundNode 4 = .ok (.iadd, 1) := by decide +kernel
theorem eX0_boundNode_5 : decode cX0_boundNode 5 = .ok (.ireturn, 1) := by decide +kernel
def C_X0_boundNode (s : ST) (p : Int) (Q : ST → Int → Prop) : Prop := bx <| RA s → R32 p → q_met mX0_boundNode (qs layX s) [.int (Int32.ofInt p)] (PI layX Q)
theorem C_X0_boundNode.mono {s : ST} {p : Int} {Q Q' : ST → Int → Prop} (h : C_X0_boundNode s p Q) (hq : ∀ s v, Q s v → Q' s v) : C_X0_boundNode s p Q' := ⟨fun hA hrp => q_met.mono (h.1 hA hrp) (fun _ _ => PI.mono hq), trivial⟩
set_option maxRecDepth 20000 in
theorem s_X0_boundNode {s : ST} {p : Int} {Q : ST → Int → Prop} (h : RA s → R32 p → (R32 (2 * p) ∧ (R32 ((2 * p) + 1) ∧ Q s ((2 * p) + 1)))) : C_X0_boundNode s p Q := by
  refine ⟨?_, trivial⟩
  intro hA hrp
  have h := h hA hrp
  refine q_enter (by decide) (Nat.le_of_ble_eq_true rfl) ?_
  refine q_ic (v := Int32.ofInt 2) eX0_boundNode_0 rfl ?_
  refine q_iload_n eX0_boundNode_1 rfl ?_
  refine z_imul eX0_boundNode_2 ?_
  have r1 := h.1
  have h := h.2
  refine q_ic (v := Int32.ofInt 1) eX0_boundNode_3 rfl ?_
  refine z_iadd eX0_boundNode_4 ?_
  have r2 := h.1
  have h := h.2
  exact q_iret eX0_boundNode_5 rfl ⟨_, _, rfl, hA, r2, rfl, h⟩
def F_X0_boundNode (s : ST) (p : Int) : Int := ((2 * p) + 1)
abbrev P_X0_boundNode (s : ST) (p : Int) : Prop := (R32 (2 * p) ∧ R32 ((2 * p) + 1))
theorem w_X0_boundNode {s : ST} {p : Int} (h : P_X0_boundNode s p) : C_X0_boundNode s p (fun s' v => s' = s ∧ v = F_X0_boundNode s p) := by
  refine s_X0_boundNode (fun hA hrp => ?_)
  unfold P_X0_boundNode at h
  refine ⟨h.1, ?_⟩
  have h := h.2
  refine ⟨h, ?_⟩
  exact ⟨rfl, rfl⟩
theorem p_X0_boundNode {s : ST} {p : Int} (h : P_X0_boundNode s p) : RA s → R32 p → q_met mX0_boundNode (qs layX s) [.int (Int32.ofInt p)] (fun σ r => R32 (F_X0_boundNode s p) ∧ σ = qs layX s ∧ r = some (.int (Int32.ofInt (F_X0_boundNode s p)))) := fun hA hrp => q_met.mono ((w_X0_boundNode h).1 hA hrp) (by
  rintro _ _ ⟨s1, v1, rfl, h1, h2, rfl, rfl, rfl⟩
  exact ⟨h2, rfl, rfl⟩)
theorem eX0_listMeant_0 : decode cX0_listMeant 0 = .ok (.aload_n 0, 1) := by decide +kernel
theorem eX0_listMeant_1 : decode cX0_listMeant 1 = .ok (.getfield 33, 3) := by decide +kernel
theorem eX0_listMeant_4 : decode cX0_listMeant 4 = .ok (.iload_n 1, 1) := by decide +kernel
theorem eX0_listMeant_5 : decode cX0_listMeant 5 = .ok (.invokevirtual 98, 3) := by decide +kernel
theorem eX0_listMeant_8 : decode cX0_listMeant 8 = .ok (.istore_n 3, 1) := by decide +kernel
theorem eX0_listMeant_9 : decode cX0_listMeant 9 = .ok (.aload_n 0, 1) := by decide +kernel
theorem eX0_listMeant_10 : decode cX0_listMeant 10 = .ok (.getfield 33, 3) := by decide +kernel
theorem eX0_listMeant_13 : decode cX0_listMeant 13 = .ok (.iload_n 1, 1) := by decide +kernel
theorem eX0_listMeant_14 : decode cX0_listMeant 14 = .ok (.invokevirtual 101, 3) := by decide +kernel
theorem eX0_listMeant_17 : decode cX0_listMeant 17 = .ok (.istore 4, 2) := by decide +kernel
theorem eX0_listMeant_19 : decode cX0_listMeant 19 = .ok (.iload_n 3, 1) := by decide +kernel
theorem eX0_listMeant_20 : decode cX0_listMeant 20 = .ok (.iconst (-1), 1) := by decide +kernel
theorem eX0_listMeant_21 : decode cX0_listMeant 21 = .ok (.if_icmp .eq 13, 3) := by decide +kernel
theorem eX0_listMeant_24 : decode cX0_listMeant 24 = .ok (.aload_n 0, 1) := by decide +kernel
theorem eX0_listMeant_25 : decode cX0_listMeant 25 = .ok (.iload_n 3, 1) := by decide +kernel
theorem eX0_listMeant_26 : decode cX0_listMeant 26 = .ok (.iload_n 2, 1) := by decide +kernel
theorem eX0_listMeant_27 : decode cX0_listMeant 27 = .ok (.iconst 0, 1) := by decide +kernel
theorem eX0_listMeant_28 : decode cX0_listMeant 28 = .ok (.invokevirtual 67, 3) := by decide +kernel
theorem eX0_listMeant_31 : decode cX0_listMeant 31 = .ok (.goto 31, 3) := by decide +kernel
theorem eX0_listMeant_34 : decode cX0_listMeant 34 = .ok (.aload_n 0, 1) := by decide +kernel
theorem eX0_listMeant_35 : decode cX0_listMeant 35 = .ok (.getfield 33, 3) := by decide +kernel
theorem eX0_listMeant_38 : decode cX0_listMeant 38 = .ok (.iload 4, 2) := by decide +kernel
theorem eX0_listMeant_40 : decode cX0_listMeant 40 = .ok (.invokevirtual 74, 3) := by decide +kernel
theorem eX0_listMeant_43 : decode cX0_listMeant 43 = .ok (.ifCond .eq 19, 3) := by decide +kernel
theorem eX0_listMeant_46 : decode cX0_listMeant 46 = .ok (.aload_n 0, 1) := by decide +kernel
theorem eX0_listMeant_47 : decode cX0_listMeant 47 = .ok (.iload_n 2, 1) := by decide +kernel
theorem eX0_listMeant_48 : decode cX0_listMeant 48 = .ok (.iconst 0, 1) := by decide +kernel
theorem eX0_listMeant_49 : decode cX0_listMeant 49 = .ok (.aload_n 0, 1) := by decide +kernel
theorem eX0_listMeant_50 : decode cX0_listMeant 50 = .ok (.getfield 21, 3) := by decide +kernel
theorem eX0_listMeant_53 : decode cX0_listMeant 53 = .ok (.iload 4, 2) := by decide +kernel
theorem eX0_listMeant_55 : decode cX0_listMeant 55 = .ok (.iaload, 1) := by decide +kernel
theorem eX0_listMeant_56 : decode cX0_listMeant 56 = .ok (.invokestatic 104, 3) := by decide +kernel
theorem eX0_listMeant_59 : decode cX0_listMeant 59 = .ok (.invokevirtual 81, 3) := by decide +kernel
theorem eX0_listMeant_62 : decode cX0_listMeant 62 = .ok (.return_, 1) := by decide +kernel
def C_X0_listMeant (a : Nat) (s : ST) (p : Int) (q : Int) (Q : ST → Prop) : Prop := bx <| isA a → RA s → R32 p → R32 q → q_met mX0_listMeant (qs layX s) [.ref a, .int (Int32.ofInt p), .int (Int32.ofInt q)] (PV layX Q)
theorem C_X0_listMeant.mono {a : Nat} {s : ST} {p : Int} {q : Int} {Q Q' : ST → Prop} (h : C_X0_listMeant a s p q Q) (hq : ∀ s, Q s → Q' s) : C_X0_listMeant a s p q Q' := ⟨fun ha hA hrp hrq => q_met.mono (h.1 ha hA hrp hrq) (fun _ _ => PV.mono hq), trivial⟩
set_option maxRecDepth 20000 in
theorem s_X0_listMeant {a : Nat} {s : ST} {p : Int} {q : Int} {Q : ST → Prop} (h : isA a → RA s → R32 p → R32 q → (P_X9_meantBy (akT a) s p ∧ (P_X9_targetOf (akT a) s p ∧ (((F_X9_meantBy (akT a) s p) = (-1) → ((¬ (¬ (F_X9_targetOf (akT a) s p) < 0 ∧ (¬ s.1 (akT a) 1 ≤ (F_X9_targetOf (akT a) s p) ∧ ¬ 40 ≤ (F_X9_targetOf (akT a) s p))) → Q s) ∧ ((¬ (F_X9_targetOf (akT a) s p) < 0 ∧ (¬ s.1 (akT a) 1 ≤ (F_X9_targetOf (akT a) s p) ∧ ¬ 40 ≤ (F_X9_targetOf (akT a) s p))) → (((0 : Int) ≤ (F_X9_targetOf (akT a) s p) ∧ (F_X9_targetOf (akT a) s p) < 40) ∧ (P_X0_boundNode s (s.1 (a + 4) (F_X9_targetOf (akT a) s p)) ∧ (C_X0_setPart a s q 0 ((2 * (s.1 (a + 4) (F_X9_targetOf (akT a) s p))) + 1) (fun s9 => Q s9))))))) ∧ (¬ (F_X9_meantBy (akT a) s p) = (-1) → (C_X0_pileUp a s (F_X9_meantBy (akT a) s p) q 0 (fun s10 => Q s10))))))) : C_X0_listMeant a s p q Q := by
  refine ⟨?_, trivial⟩
  intro ha hA hrp hrq
  have h := h ha hA hrp hrq
  refine q_enter (by decide) (Nat.le_of_ble_eq_true rfl) ?_
  refine q_aload_n eX0_listMeant_0 rfl ?_
  refine q_getR (c := 0) (n := 0) (k := 6) (a := (akT a)) eX0_listMeant_1 (al_0 ha) (by decide) (by decide) fX0_33 rfl (ar_6 ha) ?_
  refine q_iload_n eX0_listMeant_4 rfl ?_
  have f2 := h.1
  have h := h.2
  refine q_V1 (ci := 9) (n := 0) eX0_listMeant_5 DX9_meantBy lX0_98 (tl_0 (akT_ok ha)) (by decide) rfl rfl rfl rfl (p_X9_meantBy f2 (akT_ok ha) hA hrp) ?_
  rintro _ _ ⟨r1, rfl, rfl⟩
  refine q_istore_n eX0_listMeant_8 (Nat.le_of_ble_eq_true rfl) ?_
  refine q_aload_n eX0_listMeant_9 rfl ?_
  refine q_getR (c := 0) (n := 0) (k := 6) (a := (akT a)) eX0_listMeant_10 (al_0 ha) (by decide) (by decide) fX0_33 rfl (ar_6 ha) ?_
  refine q_iload_n eX0_listMeant_13 rfl ?_
  have f4 := h.1
  have h := h.2
  refine q_V1 (ci := 9) (n := 0) eX0_listMeant_14 DX9_targetOf lX0_101 (tl_0 (akT_ok ha)) (by decide) rfl rfl rfl rfl (p_X9_targetOf f4 (akT_ok ha) hA hrp) ?_
  rintro _ _ ⟨r3, rfl, rfl⟩
  refine q_istore eX0_listMeant_17 (Nat.le_of_ble_eq_true rfl) ?_
  refine q_iload_n eX0_listMeant_19 rfl ?_
  refine q_ic (v := Int32.ofInt (-1)) eX0_listMeant_20 rfl ?_
  refine q_cz_eq (tgt := 34) (a := (F_X9_meantBy (akT a) s p)) (b := (-1)) eX0_listMeant_21 (by decide) (ofz r1) (ofz (r32l rfl)) (fun c21 => ?_) (fun c21 => ?_)
  · have h := h.1 c21
    refine q_aload_n eX0_listMeant_34 rfl ?_
    refine q_getR (c := 0) (n := 0) (k := 6) (a := (akT a)) eX0_listMeant_35 (al_0 ha) (by decide) (by decide) fX0_33 rfl (ar_6 ha) ?_
    refine q_iload eX0_listMeant_38 rfl ?_
    refine q_V1 (ci := 9) (n := 0) eX0_listMeant_40 DX9_has lX0_74 (tl_0 (akT_ok ha)) (by decide) rfl rfl rfl rfl (p_X9_has (akT_ok ha) hA r3) ?_
    rintro _ _ ⟨b5, rfl, rfl⟩
    refine q_iz_eq (tgt := 62) (a := (F_X9_has (akT a) s (F_X9_targetOf (akT a) s p))) eX0_listMeant_43 (by decide) (ofz (r01 b5)) (fun c43 => ?_) (fun c43 => ?_)
    · have h := h.1 (fun q => n_X9_has.mpr q c43)
      exact q_ret eX0_listMeant_62 rfl ⟨_, rfl, hA, rfl, h⟩
    · have h := h.2 (n_X9_has.mp c43)
      refine q_aload_n eX0_listMeant_46 rfl ?_
      refine q_iload_n eX0_listMeant_47 rfl ?_
      refine q_ic (v := Int32.ofInt 0) eX0_listMeant_48 rfl ?_
      refine q_aload_n eX0_listMeant_49 rfl ?_
      refine q_getR (c := 0) (n := 0) (k := 11) (a := (a + 4)) eX0_listMeant_50 (al_0 ha) (by decide) (by decide) fX0_21 rfl (ar_11 ha) ?_
      refine q_iload eX0_listMeant_53 rfl ?_
      have f6 := h.1
      have h := h.2
      refine z_iald (n := 40) eX0_listMeant_55 (al_4 ha) (ofz r3) f6 ?_
      refine q_topI (v := Int32.ofInt (s.1 (a + 4) (F_X9_targetOf (akT a) s p))) rfl ?_
      have f8 := h.1
      have h := h.2
      refine q_S1 eX0_listMeant_56 DX0_boundNode lX0_104 rfl rfl rfl (p_X0_boundNode f8 hA (hA _ _)) ?_
      rintro _ _ ⟨r7, rfl, rfl⟩
      refine q_V3 (ci := 0) (n := 0) eX0_listMeant_59 DX0_setPart lX0_81 (al_0 ha) (by decide) rfl rfl rfl rfl (h.1 ha hA hrq (r32l rfl) r7) ?_
      rintro _ _ ⟨s9, rfl, hA9, rfl, h⟩
      exact q_ret eX0_listMeant_62 rfl ⟨_, rfl, hA9, rfl, h⟩
  · have h := h.2 c21
    refine q_aload_n eX0_listMeant_24 rfl ?_
    refine q_iload_n eX0_listMeant_25 rfl ?_
    refine q_iload_n eX0_listMeant_26 rfl ?_
    refine q_ic (v := Int32.ofInt 0) eX0_listMeant_27 rfl ?_
    refine q_V3 (ci := 0) (n := 0) eX0_listMeant_28 DX0_pileUp lX0_67 (al_0 ha) (by decide) rfl rfl rfl rfl (h.1 ha hA r1 hrq (r32l rfl)) ?_
    rintro _ _ ⟨s10, rfl, hA10, rfl, h⟩
    refine q_goto (tgt := 62) eX0_listMeant_31 (by decide) ?_
    exact q_ret eX0_listMeant_62 rfl ⟨_, rfl, hA10, rfl, h⟩
theorem eX0_listOne_0 : decode cX0_listOne 0 = .ok (.aload_n 0, 1) := by decide +kernel
theorem eX0_listOne_1 : decode cX0_listOne 1 = .ok (.dup, 1) := by decide +kernel
theorem eX0_listOne_2 : decode cX0_listOne 2 = .ok (.getfield 60, 3) := by decide +kernel
theorem eX0_listOne_5 : decode cX0_listOne 5 = .ok (.iconst 1, 1) := by decide +kernel
theorem eX0_listOne_6 : decode cX0_listOne 6 = .ok (.isub, 1) := by decide +kernel
theorem eX0_listOne_7 : decode cX0_listOne 7 = .ok (.putfield 60, 3) := by decide +kernel
theorem eX0_listOne_10 : decode cX0_listOne 10 = .ok (.aload_n 0, 1) := by decide +kernel
theorem eX0_listOne_11 : decode cX0_listOne 11 = .ok (.aload_n 0, 1) := by decide +kernel
theorem eX0_listOne_12 : decode cX0_listOne 12 = .ok (.getfield 41, 3) := by decide +kernel
theorem eX0_listOne_15 : decode cX0_listOne 15 = .ok (.ifCond .lt 13, 3) := by decide +kernel
theorem eX0_listOne_18 : decode cX0_listOne 18 = .ok (.aload_n 0, 1) := by decide +kernel
theorem eX0_listOne_19 : decode cX0_listOne 19 = .ok (.getfield 41, 3) := by decide +kernel
theorem eX0_listOne_22 : decode cX0_listOne 22 = .ok (.sipush 400, 3) := by decide +kernel
theorem eX0_listOne_25 : decode cX0_listOne 25 = .ok (.if_icmp .lt 7, 3) := by decide +kernel
theorem eX0_listOne_28 : decode cX0_listOne 28 = .ok (.iconst 1, 1) := by decide +kernel
theorem eX0_listOne_29 : decode cX0_listOne 29 = .ok (.goto 4, 3) := by decide +kernel
theorem eX0_listOne_32 : decode cX0_listOne 32 = .ok (.iconst 0, 1) := by decide +kernel
theorem eX0_listOne_33 : decode cX0_listOne 33 = .ok (.putfield 45, 3) := by decide +kernel
theorem eX0_listOne_36 : decode cX0_listOne 36 = .ok (.aload_n 0, 1) := by decide +kernel
theorem eX0_listOne_37 : decode cX0_listOne 37 = .ok (.getfield 45, 3) := by decide +kernel
theorem eX0_listOne_40 : decode cX0_listOne 40 = .ok (.ifCond .ne 39, 3) := by decide +kernel
theorem eX0_listOne_43 : decode cX0_listOne 43 = .ok (.aload_n 0, 1) := by decide +kernel
theorem eX0_listOne_44 : decode cX0_listOne 44 = .ok (.getfield 60, 3) := by decide +kernel
theorem eX0_listOne_47 : decode cX0_listOne 47 = .ok (.ifCond .lt 32, 3) := by decide +kernel
theorem eX0_listOne_50 : decode cX0_listOne 50 = .ok (.aload_n 0, 1) := by decide +kernel
theorem eX0_listOne_51 : decode cX0_listOne 51 = .ok (.getfield 60, 3) := by decide +kernel
theorem eX0_listOne_54 : decode cX0_listOne 54 = .ok (.sipush 403, 3) := by decide +kernel
theorem eX0_listOne_57 : decode cX0_listOne 57 = .ok (.if_icmp .ge 22, 3) := by decide +kernel
theorem eX0_listOne_60 : decode cX0_listOne 60 = .ok (.aload_n 0, 1) := by decide +kernel
theorem eX0_listOne_61 : decode cX0_listOne 61 = .ok (.getfield 33, 3) := by decide +kernel
theorem eX0_listOne_64 : decode cX0_listOne 64 = .ok (.aload_n 0, 1) := by decide +kernel
theorem eX0_listOne_65 : decode cX0_listOne 65 = .ok (.getfield 24, 3) := by decide +kernel
theorem eX0_listOne_68 : decode cX0_listOne 68 = .ok (.aload_n 0, 1) := by decide +kernel
theorem eX0_listOne_69 : decode cX0_listOne 69 = .ok (.getfield 60, 3) := by decide +kernel
theorem eX0_listOne_72 : decode cX0_listOne 72 = .ok (.iaload, 1) := by decide +kernel
theorem eX0_listOne_73 : decode cX0_listOne 73 = .ok (.invokevirtual 74, 3) := by decide +kernel
theorem eX0_listOne_76 : decode cX0_listOne 76 = .ok (.ifCond .ne 4, 3) := by decide +kernel
theorem eX0_listOne_79 : decode cX0_listOne 79 = .ok (.return_, 1) := by decide +kernel
theorem eX0_listOne_80 : decode cX0_listOne 80 = .ok (.aload_n 0, 1) := by decide +kernel
theorem eX0_listOne_81 : decode cX0_listOne 81 = .ok (.getfield 41, 3) := by decide +kernel
theorem eX0_listOne_84 : decode cX0_listOne 84 = .ok (.istore_n 1, 1) := by decide +kernel
theorem eX0_listOne_85 : decode cX0_listOne 85 = .ok (.aload_n 0, 1) := by decide +kernel
theorem eX0_listOne_86 : decode cX0_listOne 86 = .ok (.dup, 1) := by decide +kernel
theorem eX0_listOne_87 : decode cX0_listOne 87 = .ok (.getfield 41, 3) := by decide +kernel
theorem eX0_listOne_90 : decode cX0_listOne 90 = .ok (.iconst 1, 1) := by decide +kernel
theorem eX0_listOne_91 : decode cX0_listOne 91 = .ok (.iadd, 1) := by decide +kernel
theorem eX0_listOne_92 : decode cX0_listOne 92 = .ok (.putfield 41, 3) := by decide +kernel
theorem eX0_listOne_95 : decode cX0_listOne 95 = .ok (.aload_n 0, 1) := by decide +kernel
theorem eX0_listOne_96 : decode cX0_listOne 96 = .ok (.getfield 24, 3) := by decide +kernel
theorem eX0_listOne_99 : decode cX0_listOne 99 = .ok (.aload_n 0, 1) := by decide +kernel
theorem eX0_listOne_100 : decode cX0_listOne 100 = .ok (.getfield 60, 3) := by decide +kernel
theorem eX0_listOne_103 : decode cX0_listOne 103 = .ok (.iaload, 1) := by decide +kernel
theorem eX0_listOne_104 : decode cX0_listOne 104 = .ok (.istore_n 2, 1) := by decide +kernel
theorem eX0_listOne_105 : decode cX0_listOne 105 = .ok (.aload_n 0, 1) := by decide +kernel
theorem eX0_listOne_106 : decode cX0_listOne 106 = .ok (.getfield 9, 3) := by decide +kernel
theorem eX0_listOne_109 : decode cX0_listOne 109 = .ok (.iload_n 1, 1) := by decide +kernel
theorem eX0_listOne_110 : decode cX0_listOne 110 = .ok (.iload_n 2, 1) := by decide +kernel
theorem eX0_listOne_111 : decode cX0_listOne 111 = .ok (.iastore, 1) := by decide +kernel
theorem eX0_listOne_112 : decode cX0_listOne 112 = .ok (.aload_n 0, 1) := by decide +kernel
theorem eX0_listOne_113 : decode cX0_listOne 113 = .ok (.aload_n 0, 1) := by decide +kernel
theorem eX0_listOne_114 : decode cX0_listOne 114 = .ok (.getfield 27, 3) := by decide +kernel
theorem eX0_listOne_117 : decode cX0_listOne 117 = .ok (.aload_n 0, 1) := by decide +kernel
theorem eX0_listOne_118 : decode cX0_listOne 118 = .ok (.getfield 60, 3) := by decide +kernel
theorem eX0_listOne_121 : decode cX0_listOne 121 = .ok (.iaload, 1) := by decide +kernel
theorem eX0_listOne_122 : decode cX0_listOne 122 = .ok (.aload_n 0, 1) := by decide +kernel
theorem eX0_listOne_123 : decode cX0_listOne 123 = .ok (.getfield 30, 3) := by decide +kernel
theorem eX0_listOne_126 : decode cX0_listOne 126 = .ok (.aload_n 0, 1) := by decide +kernel
theorem eX0_listOne_127 : decode cX0_listOne 127 = .ok (.getfield 60, 3) := by decide +kernel
theorem eX0_listOne_130 : decode cX0_listOne 130 = .ok (.iaload, 1) := by decide +kernel
theorem eX0_listOne_131 : decode cX0_listOne 131 = .ok (.iload_n 1, 1) := by decide +kernel
theorem eX0_listOne_132 : decode cX0_listOne 132 = .ok (.invokestatic 78, 3) := by decide +kernel
theorem eX0_listOne_135 : decode cX0_listOne 135 = .ok (.invokevirtual 81, 3) := by decide +kernel
theorem eX0_listOne_138 : decode cX0_listOne 138 = .ok (.aload_n 0, 1) := by decide +kernel
theorem eX0_listOne_139 : decode cX0_listOne 139 = .ok (.getfield 18, 3) := by decide +kernel
theorem eX0_listOne_142 : decode cX0_listOne 142 = .ok (.iload_n 2, 1) := by decide +kernel
theorem eX0_listOne_143 : decode cX0_listOne 143 = .ok (.iaload, 1) := by decide +kernel
theorem eX0_listOne_144 : decode cX0_listOne 144 = .ok (.iconst (-1), 1) := by decide +kernel
theorem eX0_listOne_145 : decode cX0_listOne 145 = .ok (.if_icmp .ne 10, 3) := by decide +kernel
theorem eX0_listOne_148 : decode cX0_listOne 148 = .ok (.aload_n 0, 1) := by decide +kernel
theorem eX0_listOne_149 : decode cX0_listOne 149 = .ok (.getfield 18, 3) := by decide +kernel
theorem eX0_listOne_152 : decode cX0_listOne 152 = .ok (.iload_n 2, 1) := by decide +kernel
theorem eX0_listOne_153 : decode cX0_listOne 153 = .ok (.iload_n 1, 1) := by decide +kernel
theorem eX0_listOne_154 : decode cX0_listOne 154 = .ok (.iastore, 1) := by decide +kernel
theorem eX0_listOne_155 : decode cX0_listOne 155 = .ok (.aload_n 0, 1) := by decide +kernel
theorem eX0_listOne_156 : decode cX0_listOne 156 = .ok (.getfield 21, 3) := by decide +kernel
theorem eX0_listOne_159 : decode cX0_listOne 159 = .ok (.iload_n 2, 1) := by decide +kernel
theorem eX0_listOne_160 : decode cX0_listOne 160 = .ok (.iload_n 1, 1) := by decide +kernel
theorem eX0_listOne_161 : decode cX0_listOne 161 = .ok (.iastore, 1) := by decide +kernel
theorem eX0_listOne_162 : decode cX0_listOne 162 = .ok (.aload_n 0, 1) := by decide +kernel
theorem eX0_listOne_163 : decode cX0_listOne 163 = .ok (.getfield 33, 3) := by decide +kernel
theorem eX0_listOne_166 : decode cX0_listOne 166 = .ok (.iload_n 2, 1) := by decide +kernel
theorem eX0_listOne_167 : decode cX0_listOne 167 = .ok (.invokevirtual 84, 3) := by decide +kernel
theorem eX0_listOne_170 : decode cX0_listOne 170 = .ok (.iconst 1, 1) := by decide +kernel
theorem eX0_listOne_171 : decode cX0_listOne 171 = .ok (.isub, 1) := by decide +kernel
theorem eX0_listOne_172 : decode cX0_listOne 172 = .ok (.istore_n 3, 1) := by decide +kernel
theorem eX0_listOne_173 : decode cX0_listOne 173 = .ok (.iload_n 3, 1) := by decide +kernel
theorem eX0_listOne_174 : decode cX0_listOne 174 = .ok (.ifCond .lt 24, 3) := by decide +kernel
theorem eX0_listOne_177 : decode cX0_listOne 177 = .ok (.aload_n 0, 1) := by decide +kernel
theorem eX0_listOne_178 : decode cX0_listOne 178 = .ok (.aload_n 0, 1) := by decide +kernel
theorem eX0_listOne_179 : decode cX0_listOne 179 = .ok (.getfield 33, 3) := by decide +kernel
theorem eX0_listOne_182 : decode cX0_listOne 182 = .ok (.iload_n 2, 1) := by decide +kernel
theorem eX0_listOne_183 : decode cX0_listOne 183 = .ok (.iload_n 3, 1) := by decide +kernel
theorem eX0_listOne_184 : decode cX0_listOne 184 = .ok (.invokevirtual 87, 3) := by decide +kernel
theorem eX0_listOne_187 : decode cX0_listOne 187 = .ok (.iload_n 1, 1) := by decide +kernel
theorem eX0_listOne_188 : decode cX0_listOne 188 = .ok (.iload_n 3, 1) := by decide +kernel
theorem eX0_listOne_189 : decode cX0_listOne 189 = .ok (.invokevirtual 67, 3) := by decide +kernel
theorem eX0_listOne_192 : decode cX0_listOne 192 = .ok (.iinc 3 (-1), 3) := by decide +kernel
theorem eX0_listOne_195 : decode cX0_listOne 195 = .ok (.goto (-22), 3) := by decide +kernel
theorem eX0_listOne_198 : decode cX0_listOne 198 = .ok (.aload_n 0, 1) := by decide +kernel
theorem eX0_listOne_199 : decode cX0_listOne 199 = .ok (.getfield 33, 3) := by decide +kernel
theorem eX0_listOne_202 : decode cX0_listOne 202 = .ok (.getfield 91, 3) := by decide +kernel
theorem eX0_listOne_205 : decode cX0_listOne 205 = .ok (.iload_n 2, 1) := by decide +kernel
theorem eX0_listOne_206 : decode cX0_listOne 206 = .ok (.iaload, 1) := by decide +kernel
theorem eX0_listOne_207 : decode cX0_listOne 207 = .ok (.iconst 2, 1) := by decide +kernel
theorem eX0_listOne_208 : decode cX0_listOne 208 = .ok (.if_icmp .ne 9, 3) := by decide +kernel
theorem eX0_listOne_211 : decode cX0_listOne 211 = .ok (.aload_n 0, 1) := by decide +kernel
theorem eX0_listOne_212 : decode cX0_listOne 212 = .ok (.iload_n 2, 1) := by decide +kernel
theorem eX0_listOne_213 : decode cX0_listOne 213 = .ok (.iload_n 1, 1) := by decide +kernel
theorem eX0_listOne_214 : decode cX0_listOne 214 = .ok (.invokevirtual 94, 3) := by decide +kernel
theorem eX0_listOne_217 : decode cX0_listOne 217 = .ok (.return_, 1) := by decide +kernel
def C_X0_listOne (a : Nat) (s : ST) (Q : ST → Prop) : Prop := bx <| isA a → RA s → q_met mX0_listOne (qs layX s) [.ref a] (PV layX Q)
theorem C_X0_listOne.mono {a : Nat} {s : ST} {Q Q' : ST → Prop} (h : C_X0_listOne a s Q) (hq : ∀ s, Q s → Q' s) : C_X0_listOne a s Q' := ⟨fun ha hA => q_met.mono (h.1 ha hA) (fun _ _ => PV.mono hq), trivial⟩
def K_X0_listOne_173 (a : Nat) (s : ST) (a1 : Int) (a2 : Int) (a3 : Int) (Q : ST → Prop) : Prop := bx <| isA a → RA s → R32 a1 → R32 a2 → R32 a3 → q_K mX0_listOne (qs layX s) 0 0 173 [(0, .ref a), (1, .int (Int32.ofInt a1)), (2, .int (Int32.ofInt a2)), (3, .int (Int32.ofInt a3))] [] (q_fin mX0_listOne (PV layX Q))
def K_X0_listOne_155 (a : Nat) (s : ST) (a1 : Int) (a2 : Int) (Q : ST → Prop) : Prop := bx <| isA a → RA s → R32 a1 → R32 a2 → q_K mX0_listOne (qs layX s) 0 0 155 [(0, .ref a), (1, .int (Int32.ofInt a1)), (2, .int (Int32.ofInt a2))] [] (q_fin mX0_listOne (PV layX Q))
def K_X0_listOne_33 (a : Nat) (s : ST) (t1 : Int) (Q : ST → Prop) : Prop := bx <| isA a → RA s → R32 t1 → q_K mX0_listOne (qs layX s) 0 0 33 [(0, .ref a)] [.int (Int32.ofInt t1), .ref a] (q_fin mX0_listOne (PV layX Q))
def K_X0_listOne_28 (a : Nat) (s : ST) (Q : ST → Prop) : Prop := bx <| isA a → RA s → q_K mX0_listOne (qs layX s) 0 0 28 [(0, .ref a)] [.ref a] (q_fin mX0_listOne (PV layX Q))
set_option maxRecDepth 20000 in
theorem s_X0_listOne_173 {a : Nat} {s : ST} {a1 : Int} {a2 : Int} {a3 : Int} {Q : ST → Prop} (h : isA a → RA s → R32 a1 → R32 a2 → R32 a3 → ((a3 < 0 → (((0 : Int) ≤ a2 ∧ a2 < 40) ∧ ((¬ s.1 ((akT a) + 3) a2 = 2 → Q s) ∧ (s.1 ((akT a) + 3) a2 = 2 → (C_X0_listMeant a s a2 a1 (fun s2 => Q s2)))))) ∧ (¬ a3 < 0 → (P_X9_kidOf (akT a) s a2 a3 ∧ (C_X0_pileUp a s (F_X9_kidOf (akT a) s a2 a3) a1 a3 (fun s5 => (R32 (a3 - 1) ∧ K_X0_listOne_173 a s5 a1 a2 (a3 - 1) Q))))))) : K_X0_listOne_173 a s a1 a2 a3 Q := by
  refine ⟨?_, trivial⟩
  intro ha hA hra1 hra2 hra3
  have h := h ha hA hra1 hra2 hra3
  refine q_iload_n eX0_listOne_173 rfl ?_
  refine q_iz_lt (tgt := 198) (a := a3) eX0_listOne_174 (by decide) (ofz hra3) (fun c174 => ?_) (fun c174 => ?_)
  · have h := h.1 c174
    refine q_aload_n eX0_listOne_198 rfl ?_
    refine q_getR (c := 0) (n := 0) (k := 6) (a := (akT a)) eX0_listOne_199 (al_0 ha) (by decide) (by decide) fX0_33 rfl (ar_6 ha) ?_
    refine q_getR (c := 9) (n := 0) (k := 5) (a := ((akT a) + 3)) eX0_listOne_202 (tl_0 (akT_ok ha)) (by decide) (by decide) fX0_91 rfl (tr_5 (akT_ok ha)) ?_
    refine q_iload_n eX0_listOne_205 rfl ?_
    have f1 := h.1
    have h := h.2
    refine z_iald (n := 40) eX0_listOne_206 (tl_3 (akT_ok ha)) (ofz hra2) f1 ?_
    refine q_topI (v := Int32.ofInt (s.1 ((akT a) + 3) a2)) rfl ?_
    refine q_ic (v := Int32.ofInt 2) eX0_listOne_207 rfl ?_
    refine q_cz_ne (tgt := 217) (a := s.1 ((akT a) + 3) a2) (b := 2) eX0_listOne_208 (by decide) (ofz (hA _ _)) (ofz (r32l rfl)) (fun c208 => ?_) (fun c208 => ?_)
    · have h := h.1 c208
      exact q_ret eX0_listOne_217 rfl ⟨_, rfl, hA, rfl, h⟩
    · have h := h.2 c208
      refine q_aload_n eX0_listOne_211 rfl ?_
      refine q_iload_n eX0_listOne_212 rfl ?_
      refine q_iload_n eX0_listOne_213 rfl ?_
      refine q_V2 (ci := 0) (n := 0) eX0_listOne_214 DX0_listMeant lX0_94 (al_0 ha) (by decide) rfl rfl rfl rfl (h.1 ha hA hra2 hra1) ?_
      rintro _ _ ⟨s2, rfl, hA2, rfl, h⟩
      exact q_ret eX0_listOne_217 rfl ⟨_, rfl, hA2, rfl, h⟩
  · have h := h.2 c174
    refine q_aload_n eX0_listOne_177 rfl ?_
    refine q_aload_n eX0_listOne_178 rfl ?_
    refine q_getR (c := 0) (n := 0) (k := 6) (a := (akT a)) eX0_listOne_179 (al_0 ha) (by decide) (by decide) fX0_33 rfl (ar_6 ha) ?_
    refine q_iload_n eX0_listOne_182 rfl ?_
    refine q_iload_n eX0_listOne_183 rfl ?_
    have f4 := h.1
    have h := h.2
    refine q_V2 (ci := 9) (n := 0) eX0_listOne_184 DX9_kidOf lX0_87 (tl_0 (akT_ok ha)) (by decide) rfl rfl rfl rfl (p_X9_kidOf f4 (akT_ok ha) hA hra2 hra3) ?_
    rintro _ _ ⟨r3, rfl, rfl⟩
    refine q_iload_n eX0_listOne_187 rfl ?_
    refine q_iload_n eX0_listOne_188 rfl ?_
    refine q_V3 (ci := 0) (n := 0) eX0_listOne_189 DX0_pileUp lX0_67 (al_0 ha) (by decide) rfl rfl rfl rfl (h.1 ha hA r3 hra1 hra3) ?_
    rintro _ _ ⟨s5, rfl, hA5, rfl, h⟩
    have r6 := h.1
    have h := h.2
    refine z_incN (m := 1) eX0_listOne_192 rfl (Nat.le_of_ble_eq_true rfl) rfl ?_
    refine q_goto (tgt := 173) eX0_listOne_195 (by decide) ?_
    exact q_subL rfl (h.1 ha hA5 hra1 hra2 r6)
set_option maxRecDepth 20000 in
theorem s_X0_listOne_155 {a : Nat} {s : ST} {a1 : Int} {a2 : Int} {Q : ST → Prop} (h : isA a → RA s → R32 a1 → R32 a2 → (((0 : Int) ≤ a2 ∧ a2 < 40) ∧ (P_X9_arityOf (akT a) (ui s (a + 4) a2 a1) a2 ∧ (R32 ((F_X9_arityOf (akT a) (ui s (a + 4) a2 a1) a2) - 1) ∧ K_X0_listOne_173 a (ui s (a + 4) a2 a1) a1 a2 ((F_X9_arityOf (akT a) (ui s (a + 4) a2 a1) a2) - 1) Q)))) : K_X0_listOne_155 a s a1 a2 Q := by
  refine ⟨?_, trivial⟩
  intro ha hA hra1 hra2
  have h := h ha hA hra1 hra2
  refine q_aload_n eX0_listOne_155 rfl ?_
  refine q_getR (c := 0) (n := 0) (k := 11) (a := (a + 4)) eX0_listOne_156 (al_0 ha) (by decide) (by decide) fX0_21 rfl (ar_11 ha) ?_
  refine q_iload_n eX0_listOne_159 rfl ?_
  refine q_iload_n eX0_listOne_160 rfl ?_
  have f1 := h.1
  have h := h.2
  refine z_iast (n := 40) eX0_listOne_161 (al_4 ha) (ofz hra2) f1  ?_
  refine q_aload_n eX0_listOne_162 rfl ?_
  refine q_getR (c := 0) (n := 0) (k := 6) (a := (akT a)) eX0_listOne_163 (al_0 ha) (by decide) (by decide) fX0_33 rfl (ar_6 ha) ?_
  refine q_iload_n eX0_listOne_166 rfl ?_
  have f3 := h.1
  have h := h.2
  refine q_V1 (ci := 9) (n := 0) eX0_listOne_167 DX9_arityOf lX0_84 (tl_0 (akT_ok ha)) (by decide) rfl rfl rfl rfl (p_X9_arityOf f3 (akT_ok ha) (ra_ui hA hra1) hra2) ?_
  rintro _ _ ⟨r2, rfl, rfl⟩
  refine q_ic (v := Int32.ofInt 1) eX0_listOne_170 rfl ?_
  refine z_isub eX0_listOne_171 ?_
  have r4 := h.1
  have h := h.2
  refine q_istore_n eX0_listOne_172 (Nat.le_of_ble_eq_true rfl) ?_
  exact q_subL rfl (h.1 ha (ra_ui hA hra1) hra1 hra2 r4)
set_option maxRecDepth 20000 in
theorem s_X0_listOne_33 {a : Nat} {s : ST} {t1 : Int} {Q : ST → Prop} (h : isA a → RA s → R32 t1 → ((t1 = 0 ∨ t1 = 1) ∧ ((¬ (ui s a 1 t1).1 a 1 = 0 → Q (ui s a 1 t1)) ∧ ((ui s a 1 t1).1 a 1 = 0 → (((ui s a 1 t1).1 a 15 < 0 → Q (ui s a 1 t1)) ∧ (¬ (ui s a 1 t1).1 a 15 < 0 → ((403 ≤ (ui s a 1 t1).1 a 15 → Q (ui s a 1 t1)) ∧ (¬ 403 ≤ (ui s a 1 t1).1 a 15 → (((0 : Int) ≤ (ui s a 1 t1).1 a 15 ∧ (ui s a 1 t1).1 a 15 < 403) ∧ (((¬ ((ui s a 1 t1).1 (a + 5) ((ui s a 1 t1).1 a 15)) < 0 ∧ (¬ (ui s a 1 t1).1 (akT a) 1 ≤ ((ui s a 1 t1).1 (a + 5) ((ui s a 1 t1).1 a 15)) ∧ ¬ 40 ≤ ((ui s a 1 t1).1 (a + 5) ((ui s a 1 t1).1 a 15)))) → (R32 ((ui s a 1 t1).1 a 0 + 1) ∧ (((0 : Int) ≤ (ui (ui s a 1 t1) a 0 ((ui s a 1 t1).1 a 0 + 1)).1 a 15 ∧ (ui (ui s a 1 t1) a 0 ((ui s a 1 t1).1 a 0 + 1)).1 a 15 < 403) ∧ (((0 : Int) ≤ (ui s a 1 t1).1 a 0 ∧ (ui s a 1 t1).1 a 0 < 400) ∧ (((0 : Int) ≤ (ui (ui (ui s a 1 t1) a 0 ((ui s a 1 t1).1 a 0 + 1)) (a + 1) ((ui s a 1 t1).1 a 0) ((ui (ui s a 1 t1) a 0 ((ui s a 1 t1).1 a 0 + 1)).1 (a + 5) ((ui (ui s a 1 t1) a 0 ((ui s a 1 t1).1 a 0 + 1)).1 a 15))).1 a 15 ∧ (ui (ui (ui s a 1 t1) a 0 ((ui s a 1 t1).1 a 0 + 1)) (a + 1) ((ui s a 1 t1).1 a 0) ((ui (ui s a 1 t1) a 0 ((ui s a 1 t1).1 a 0 + 1)).1 (a + 5) ((ui (ui s a 1 t1) a 0 ((ui s a 1 t1).1 a 0 + 1)).1 a 15))).1 a 15 < 403) ∧ (P_X0_kindNode (ui (ui (ui s a 1 t1) a 0 ((ui s a 1 t1).1 a 0 + 1)) (a + 1) ((ui s a 1 t1).1 a 0) ((ui (ui s a 1 t1) a 0 ((ui s a 1 t1).1 a 0 + 1)).1 (a + 5) ((ui (ui s a 1 t1) a 0 ((ui s a 1 t1).1 a 0 + 1)).1 a 15))) ((ui s a 1 t1).1 a 0) ∧ (C_X0_setPart a (ui (ui (ui s a 1 t1) a 0 ((ui s a 1 t1).1 a 0 + 1)) (a + 1) ((ui s a 1 t1).1 a 0) ((ui (ui s a 1 t1) a 0 ((ui s a 1 t1).1 a 0 + 1)).1 (a + 5) ((ui (ui s a 1 t1) a 0 ((ui s a 1 t1).1 a 0 + 1)).1 a 15))) ((ui (ui (ui s a 1 t1) a 0 ((ui s a 1 t1).1 a 0 + 1)) (a + 1) ((ui s a 1 t1).1 a 0) ((ui (ui s a 1 t1) a 0 ((ui s a 1 t1).1 a 0 + 1)).1 (a + 5) ((ui (ui s a 1 t1) a 0 ((ui s a 1 t1).1 a 0 + 1)).1 a 15))).1 (a + 6) ((ui (ui (ui s a 1 t1) a 0 ((ui s a 1 t1).1 a 0 + 1)) (a + 1) ((ui s a 1 t1).1 a 0) ((ui (ui s a 1 t1) a 0 ((ui s a 1 t1).1 a 0 + 1)).1 (a + 5) ((ui (ui s a 1 t1) a 0 ((ui s a 1 t1).1 a 0 + 1)).1 a 15))).1 a 15)) ((ui (ui (ui s a 1 t1) a 0 ((ui s a 1 t1).1 a 0 + 1)) (a + 1) ((ui s a 1 t1).1 a 0) ((ui (ui s a 1 t1) a 0 ((ui s a 1 t1).1 a 0 + 1)).1 (a + 5) ((ui (ui s a 1 t1) a 0 ((ui s a 1 t1).1 a 0 + 1)).1 a 15))).1 (a + 7) ((ui (ui (ui s a 1 t1) a 0 ((ui s a 1 t1).1 a 0 + 1)) (a + 1) ((ui s a 1 t1).1 a 0) ((ui (ui s a 1 t1) a 0 ((ui s a 1 t1).1 a 0 + 1)).1 (a + 5) ((ui (ui s a 1 t1) a 0 ((ui s a 1 t1).1 a 0 + 1)).1 a 15))).1 a 15)) (2 * ((ui s a 1 t1).1 a 0)) (fun s10 => (((0 : Int) ≤ (ui (ui s a 1 t1) a 0 ((ui s a 1 t1).1 a 0 + 1)).1 (a + 5) ((ui (ui s a 1 t1) a 0 ((ui s a 1 t1).1 a 0 + 1)).1 a 15) ∧ (ui (ui s a 1 t1) a 0 ((ui s a 1 t1).1 a 0 + 1)).1 (a + 5) ((ui (ui s a 1 t1) a 0 ((ui s a 1 t1).1 a 0 + 1)).1 a 15) < 40) ∧ ((¬ s10.1 (a + 3) ((ui (ui s a 1 t1) a 0 ((ui s a 1 t1).1 a 0 + 1)).1 (a + 5) ((ui (ui s a 1 t1) a 0 ((ui s a 1 t1).1 a 0 + 1)).1 a 15)) = (-1) → K_X0_listOne_155 a s10 ((ui s a 1 t1).1 a 0) ((ui (ui s a 1 t1) a 0 ((ui s a 1 t1).1 a 0 + 1)).1 (a + 5) ((ui (ui s a 1 t1) a 0 ((ui s a 1 t1).1 a 0 + 1)).1 a 15)) Q) ∧ (s10.1 (a + 3) ((ui (ui s a 1 t1) a 0 ((ui s a 1 t1).1 a 0 + 1)).1 (a + 5) ((ui (ui s a 1 t1) a 0 ((ui s a 1 t1).1 a 0 + 1)).1 a 15)) = (-1) → K_X0_listOne_155 a (ui s10 (a + 3) ((ui (ui s a 1 t1) a 0 ((ui s a 1 t1).1 a 0 + 1)).1 (a + 5) ((ui (ui s a 1 t1) a 0 ((ui s a 1 t1).1 a 0 + 1)).1 a 15)) ((ui s a 1 t1).1 a 0)) ((ui s a 1 t1).1 a 0) ((ui (ui s a 1 t1) a 0 ((ui s a 1 t1).1 a 0 + 1)).1 (a + 5) ((ui (ui s a 1 t1) a 0 ((ui s a 1 t1).1 a 0 + 1)).1 a 15)) Q))))))))))) ∧ (¬ (¬ ((ui s a 1 t1).1 (a + 5) ((ui s a 1 t1).1 a 15)) < 0 ∧ (¬ (ui s a 1 t1).1 (akT a) 1 ≤ ((ui s a 1 t1).1 (a + 5) ((ui s a 1 t1).1 a 15)) ∧ ¬ 40 ≤ ((ui s a 1 t1).1 (a + 5) ((ui s a 1 t1).1 a 15)))) → Q (ui s a 1 t1)))))))))))) : K_X0_listOne_33 a s t1 Q := by
  refine ⟨?_, trivial⟩
  intro ha hA hrt1
  have h := h ha hA hrt1
  have b1 := h.1
  have h := h.2
  refine z_putZ (c := 0) (n := 0) (k := 1) (kz := 1) eX0_listOne_33 (al_0 ha) (by decide) (by decide) fX0_45 rfl rfl rfl (z01 b1) ?_
  refine q_aload_n eX0_listOne_36 rfl ?_
  refine q_getf (c := 0) (n := 0) (k := 1) (v := .int (Int32.ofInt ((ui s a 1 t1).1 a 1))) eX0_listOne_37 (al_0 ha) (by decide) (by decide) fX0_45 rfl ?_
  refine q_iz_ne (tgt := 79) (a := (ui s a 1 t1).1 a 1) eX0_listOne_40 (by decide) (ofz ((ra_ui hA hrt1) _ _)) (fun c40 => ?_) (fun c40 => ?_)
  · have h := h.1 c40
    exact q_ret eX0_listOne_79 rfl ⟨_, rfl, (ra_ui hA hrt1), rfl, h⟩
  · have h := h.2 c40
    refine q_aload_n eX0_listOne_43 rfl ?_
    refine q_getf (c := 0) (n := 0) (k := 15) (v := .int (Int32.ofInt ((ui s a 1 t1).1 a 15))) eX0_listOne_44 (al_0 ha) (by decide) (by decide) fX0_60 rfl ?_
    refine q_iz_lt (tgt := 79) (a := (ui s a 1 t1).1 a 15) eX0_listOne_47 (by decide) (ofz ((ra_ui hA hrt1) _ _)) (fun c47 => ?_) (fun c47 => ?_)
    · have h := h.1 c47
      exact q_ret eX0_listOne_79 rfl ⟨_, rfl, (ra_ui hA hrt1), rfl, h⟩
    · have h := h.2 c47
      refine q_aload_n eX0_listOne_50 rfl ?_
      refine q_getf (c := 0) (n := 0) (k := 15) (v := .int (Int32.ofInt ((ui s a 1 t1).1 a 15))) eX0_listOne_51 (al_0 ha) (by decide) (by decide) fX0_60 rfl ?_
      refine q_si (v := Int32.ofInt 403) eX0_listOne_54 rfl ?_
      refine q_cz_ge (tgt := 79) (a := (ui s a 1 t1).1 a 15) (b := 403) eX0_listOne_57 (by decide) (ofz ((ra_ui hA hrt1) _ _)) (ofz (r32l rfl)) (fun c57 => ?_) (fun c57 => ?_)
      · have h := h.1 c57
        exact q_ret eX0_listOne_79 rfl ⟨_, rfl, (ra_ui hA hrt1), rfl, h⟩
      · have h := h.2 c57
        refine q_aload_n eX0_listOne_60 rfl ?_
        refine q_getR (c := 0) (n := 0) (k := 6) (a := (akT a)) eX0_listOne_61 (al_0 ha) (by decide) (by decide) fX0_33 rfl (ar_6 ha) ?_
        refine q_aload_n eX0_listOne_64 rfl ?_
        refine q_getR (c := 0) (n := 0) (k := 12) (a := (a + 5)) eX0_listOne_65 (al_0 ha) (by decide) (by decide) fX0_24 rfl (ar_12 ha) ?_
        refine q_aload_n eX0_listOne_68 rfl ?_
        refine q_getf (c := 0) (n := 0) (k := 15) (v := .int (Int32.ofInt ((ui s a 1 t1).1 a 15))) eX0_listOne_69 (al_0 ha) (by decide) (by decide) fX0_60 rfl ?_
        have f2 := h.1
        have h := h.2
        refine z_iald (n := 403) eX0_listOne_72 (al_5 ha) (ofz ((ra_ui hA hrt1) _ _)) f2 ?_
        refine q_topI (v := Int32.ofInt ((ui s a 1 t1).1 (a + 5) ((ui s a 1 t1).1 a 15))) rfl ?_
        refine q_V1 (ci := 9) (n := 0) eX0_listOne_73 DX9_has lX0_74 (tl_0 (akT_ok ha)) (by decide) rfl rfl rfl rfl (p_X9_has (akT_ok ha) (ra_ui hA hrt1) ((ra_ui hA hrt1) _ _)) ?_
        rintro _ _ ⟨b3, rfl, rfl⟩
        refine q_iz_ne (tgt := 80) (a := (F_X9_has (akT a) (ui s a 1 t1) ((ui s a 1 t1).1 (a + 5) ((ui s a 1 t1).1 a 15)))) eX0_listOne_76 (by decide) (ofz (r01 b3)) (fun c76 => ?_) (fun c76 => ?_)
        · have h := h.1 (n_X9_has.mp c76)
          refine q_aload_n eX0_listOne_80 rfl ?_
          refine q_getf (c := 0) (n := 0) (k := 0) (v := .int (Int32.ofInt ((ui s a 1 t1).1 a 0))) eX0_listOne_81 (al_0 ha) (by decide) (by decide) fX0_41 rfl ?_
          refine q_istore_n eX0_listOne_84 (Nat.le_of_ble_eq_true rfl) ?_
          refine q_aload_n eX0_listOne_85 rfl ?_
          refine q_dup eX0_listOne_86 rfl ?_
          refine q_getf (c := 0) (n := 0) (k := 0) (v := .int (Int32.ofInt ((ui s a 1 t1).1 a 0))) eX0_listOne_87 (al_0 ha) (by decide) (by decide) fX0_41 rfl ?_
          refine q_ic (v := Int32.ofInt 1) eX0_listOne_90 rfl ?_
          refine z_iadd eX0_listOne_91 ?_
          have r4 := h.1
          have h := h.2
          refine z_putI (c := 0) (n := 0) (k := 0) (kz := 0) eX0_listOne_92 (al_0 ha) (by decide) (by decide) fX0_41 rfl rfl rfl ?_
          refine q_aload_n eX0_listOne_95 rfl ?_
          refine q_getR (c := 0) (n := 0) (k := 12) (a := (a + 5)) eX0_listOne_96 (al_0 ha) (by decide) (by decide) fX0_24 rfl (ar_12 ha) ?_
          refine q_aload_n eX0_listOne_99 rfl ?_
          refine q_getf (c := 0) (n := 0) (k := 15) (v := .int (Int32.ofInt ((ui (ui s a 1 t1) a 0 ((ui s a 1 t1).1 a 0 + 1)).1 a 15))) eX0_listOne_100 (al_0 ha) (by decide) (by decide) fX0_60 rfl ?_
          have f5 := h.1
          have h := h.2
          refine z_iald (n := 403) eX0_listOne_103 (al_5 ha) (ofz ((ra_ui (ra_ui hA hrt1) r4) _ _)) f5 ?_
          refine q_topI (v := Int32.ofInt ((ui (ui s a 1 t1) a 0 ((ui s a 1 t1).1 a 0 + 1)).1 (a + 5) ((ui (ui s a 1 t1) a 0 ((ui s a 1 t1).1 a 0 + 1)).1 a 15))) rfl ?_
          refine q_istore_n eX0_listOne_104 (Nat.le_of_ble_eq_true rfl) ?_
          refine q_aload_n eX0_listOne_105 rfl ?_
          refine q_getR (c := 0) (n := 0) (k := 8) (a := (a + 1)) eX0_listOne_106 (al_0 ha) (by decide) (by decide) fX0_9 rfl (ar_8 ha) ?_
          refine q_iload_n eX0_listOne_109 rfl ?_
          refine q_iload_n eX0_listOne_110 rfl ?_
          have f6 := h.1
          have h := h.2
          refine z_iast (n := 400) eX0_listOne_111 (al_1 ha) (ofz ((ra_ui hA hrt1) _ _)) f6  ?_
          refine q_aload_n eX0_listOne_112 rfl ?_
          refine q_aload_n eX0_listOne_113 rfl ?_
          refine q_getR (c := 0) (n := 0) (k := 13) (a := (a + 6)) eX0_listOne_114 (al_0 ha) (by decide) (by decide) fX0_27 rfl (ar_13 ha) ?_
          refine q_aload_n eX0_listOne_117 rfl ?_
          refine q_getf (c := 0) (n := 0) (k := 15) (v := .int (Int32.ofInt ((ui (ui (ui s a 1 t1) a 0 ((ui s a 1 t1).1 a 0 + 1)) (a + 1) ((ui s a 1 t1).1 a 0) ((ui (ui s a 1 t1) a 0 ((ui s a 1 t1).1 a 0 + 1)).1 (a + 5) ((ui (ui s a 1 t1) a 0 ((ui s a 1 t1).1 a 0 + 1)).1 a 15))).1 a 15))) eX0_listOne_118 (al_0 ha) (by decide) (by decide) fX0_60 rfl ?_
          have f7 := h.1
          have h := h.2
          refine z_iald (n := 403) eX0_listOne_121 (al_6 ha) (ofz ((ra_ui (ra_ui (ra_ui hA hrt1) r4) ((ra_ui (ra_ui hA hrt1) r4) _ _)) _ _)) f7 ?_
          refine q_topI (v := Int32.ofInt ((ui (ui (ui s a 1 t1) a 0 ((ui s a 1 t1).1 a 0 + 1)) (a + 1) ((ui s a 1 t1).1 a 0) ((ui (ui s a 1 t1) a 0 ((ui s a 1 t1).1 a 0 + 1)).1 (a + 5) ((ui (ui s a 1 t1) a 0 ((ui s a 1 t1).1 a 0 + 1)).1 a 15))).1 (a + 6) ((ui (ui (ui s a 1 t1) a 0 ((ui s a 1 t1).1 a 0 + 1)) (a + 1) ((ui s a 1 t1).1 a 0) ((ui (ui s a 1 t1) a 0 ((ui s a 1 t1).1 a 0 + 1)).1 (a + 5) ((ui (ui s a 1 t1) a 0 ((ui s a 1 t1).1 a 0 + 1)).1 a 15))).1 a 15))) rfl ?_
          refine q_aload_n eX0_listOne_122 rfl ?_
          refine q_getR (c := 0) (n := 0) (k := 14) (a := (a + 7)) eX0_listOne_123 (al_0 ha) (by decide) (by decide) fX0_30 rfl (ar_14 ha) ?_
          refine q_aload_n eX0_listOne_126 rfl ?_
          refine q_getf (c := 0) (n := 0) (k := 15) (v := .int (Int32.ofInt ((ui (ui (ui s a 1 t1) a 0 ((ui s a 1 t1).1 a 0 + 1)) (a + 1) ((ui s a 1 t1).1 a 0) ((ui (ui s a 1 t1) a 0 ((ui s a 1 t1).1 a 0 + 1)).1 (a + 5) ((ui (ui s a 1 t1) a 0 ((ui s a 1 t1).1 a 0 + 1)).1 a 15))).1 a 15))) eX0_listOne_127 (al_0 ha) (by decide) (by decide) fX0_60 rfl ?_
          refine z_iald (n := 403) eX0_listOne_130 (al_7 ha) (ofz ((ra_ui (ra_ui (ra_ui hA hrt1) r4) ((ra_ui (ra_ui hA hrt1) r4) _ _)) _ _)) f7 ?_
          refine q_topI (v := Int32.ofInt ((ui (ui (ui s a 1 t1) a 0 ((ui s a 1 t1).1 a 0 + 1)) (a + 1) ((ui s a 1 t1).1 a 0) ((ui (ui s a 1 t1) a 0 ((ui s a 1 t1).1 a 0 + 1)).1 (a + 5) ((ui (ui s a 1 t1) a 0 ((ui s a 1 t1).1 a 0 + 1)).1 a 15))).1 (a + 7) ((ui (ui (ui s a 1 t1) a 0 ((ui s a 1 t1).1 a 0 + 1)) (a + 1) ((ui s a 1 t1).1 a 0) ((ui (ui s a 1 t1) a 0 ((ui s a 1 t1).1 a 0 + 1)).1 (a + 5) ((ui (ui s a 1 t1) a 0 ((ui s a 1 t1).1 a 0 + 1)).1 a 15))).1 a 15))) rfl ?_
          refine q_iload_n eX0_listOne_131 rfl ?_
          have f9 := h.1
          have h := h.2
          refine q_S1 eX0_listOne_132 DX0_kindNode lX0_78 rfl rfl rfl (p_X0_kindNode f9 (ra_ui (ra_ui (ra_ui hA hrt1) r4) ((ra_ui (ra_ui hA hrt1) r4) _ _)) ((ra_ui hA hrt1) _ _)) ?_
          rintro _ _ ⟨r8, rfl, rfl⟩
          refine q_V3 (ci := 0) (n := 0) eX0_listOne_135 DX0_setPart lX0_81 (al_0 ha) (by decide) rfl rfl rfl rfl (h.1 ha (ra_ui (ra_ui (ra_ui hA hrt1) r4) ((ra_ui (ra_ui hA hrt1) r4) _ _)) ((ra_ui (ra_ui (ra_ui hA hrt1) r4) ((ra_ui (ra_ui hA hrt1) r4) _ _)) _ _) ((ra_ui (ra_ui (ra_ui hA hrt1) r4) ((ra_ui (ra_ui hA hrt1) r4) _ _)) _ _) r8) ?_
          rintro _ _ ⟨s10, rfl, hA10, rfl, h⟩
          refine q_aload_n eX0_listOne_138 rfl ?_
          refine q_getR (c := 0) (n := 0) (k := 10) (a := (a + 3)) eX0_listOne_139 (al_0 ha) (by decide) (by decide) fX0_18 rfl (ar_10 ha) ?_
          refine q_iload_n eX0_listOne_142 rfl ?_
          have f11 := h.1
          have h := h.2
          refine z_iald (n := 40) eX0_listOne_143 (al_3 ha) (ofz ((ra_ui (ra_ui hA hrt1) r4) _ _)) f11 ?_
          refine q_topI (v := Int32.ofInt (s10.1 (a + 3) ((ui (ui s a 1 t1) a 0 ((ui s a 1 t1).1 a 0 + 1)).1 (a + 5) ((ui (ui s a 1 t1) a 0 ((ui s a 1 t1).1 a 0 + 1)).1 a 15)))) rfl ?_
          refine q_ic (v := Int32.ofInt (-1)) eX0_listOne_144 rfl ?_
          refine q_cz_ne (tgt := 155) (a := s10.1 (a + 3) ((ui (ui s a 1 t1) a 0 ((ui s a 1 t1).1 a 0 + 1)).1 (a + 5) ((ui (ui s a 1 t1) a 0 ((ui s a 1 t1).1 a 0 + 1)).1 a 15))) (b := (-1)) eX0_listOne_145 (by decide) (ofz (hA10 _ _)) (ofz (r32l rfl)) (fun c145 => ?_) (fun c145 => ?_)
          · have h := h.1 c145
            exact q_subL rfl (h.1 ha hA10 ((ra_ui hA hrt1) _ _) ((ra_ui (ra_ui hA hrt1) r4) _ _))
          · have h := h.2 c145
            refine q_aload_n eX0_listOne_148 rfl ?_
            refine q_getR (c := 0) (n := 0) (k := 10) (a := (a + 3)) eX0_listOne_149 (al_0 ha) (by decide) (by decide) fX0_18 rfl (ar_10 ha) ?_
            refine q_iload_n eX0_listOne_152 rfl ?_
            refine q_iload_n eX0_listOne_153 rfl ?_
            refine z_iast (n := 40) eX0_listOne_154 (al_3 ha) (ofz ((ra_ui (ra_ui hA hrt1) r4) _ _)) f11  ?_
            exact q_subL rfl (h.1 ha (ra_ui hA10 ((ra_ui hA hrt1) _ _)) ((ra_ui hA hrt1) _ _) ((ra_ui (ra_ui hA hrt1) r4) _ _))
        · have h := h.2 (fun q => n_X9_has.mpr q c76)
          exact q_ret eX0_listOne_79 rfl ⟨_, rfl, (ra_ui hA hrt1), rfl, h⟩
set_option maxRecDepth 20000 in
theorem s_X0_listOne_28 {a : Nat} {s : ST} {Q : ST → Prop} (h : isA a → RA s → K_X0_listOne_33 a s 1 Q) : K_X0_listOne_28 a s Q := by
  refine ⟨?_, trivial⟩
  intro ha hA
  have h := h ha hA
  refine q_ic (v := Int32.ofInt 1) eX0_listOne_28 rfl ?_
  refine q_goto (tgt := 33) eX0_listOne_29 (by decide) ?_
  exact q_subL rfl (h.1 ha hA (r32l rfl))
set_option maxRecDepth 20000 in
theorem s_X0_listOne {a : Nat} {s : ST} {Q : ST → Prop} (h : isA a → RA s → (R32 (s.1 a 15 - 1) ∧ (((ui s a 15 (s.1 a 15 - 1)).1 a 0 < 0 → K_X0_listOne_28 a (ui s a 15 (s.1 a 15 - 1)) Q) ∧ (¬ (ui s a 15 (s.1 a 15 - 1)).1 a 0 < 0 → (((ui s a 15 (s.1 a 15 - 1)).1 a 0 < 400 → K_X0_listOne_33 a (ui s a 15 (s.1 a 15 - 1)) 0 Q) ∧ (¬ (ui s a 15 (s.1 a 15 - 1)).1 a 0 < 400 → K_X0_listOne_28 a (ui s a 15 (s.1 a 15 - 1)) Q)))))) : C_X0_listOne a s Q := by
  refine ⟨?_, trivial⟩
  intro ha hA
  have h := h ha hA
  refine q_enter (by decide) (Nat.le_of_ble_eq_true rfl) ?_
  refine q_aload_n eX0_listOne_0 rfl ?_
  refine q_dup eX0_listOne_1 rfl ?_
  refine q_getf (c := 0) (n := 0) (k := 15) (v := .int (Int32.ofInt (s.1 a 15))) eX0_listOne_2 (al_0 ha) (by decide) (by decide) fX0_60 rfl ?_
  refine q_ic (v := Int32.ofInt 1) eX0_listOne_5 rfl ?_
  refine z_isub eX0_listOne_6 ?_
  have r1 := h.1
  have h := h.2
  refine z_putI (c := 0) (n := 0) (k := 15) (kz := 15) eX0_listOne_7 (al_0 ha) (by decide) (by decide) fX0_60 rfl rfl rfl ?_
  refine q_aload_n eX0_listOne_10 rfl ?_
  refine q_aload_n eX0_listOne_11 rfl ?_
  refine q_getf (c := 0) (n := 0) (k := 0) (v := .int (Int32.ofInt ((ui s a 15 (s.1 a 15 - 1)).1 a 0))) eX0_listOne_12 (al_0 ha) (by decide) (by decide) fX0_41 rfl ?_
  refine q_iz_lt (tgt := 28) (a := (ui s a 15 (s.1 a 15 - 1)).1 a 0) eX0_listOne_15 (by decide) (ofz ((ra_ui hA r1) _ _)) (fun c15 => ?_) (fun c15 => ?_)
  · have h := h.1 c15
    exact q_subL rfl (h.1 ha (ra_ui hA r1))
  · have h := h.2 c15
    refine q_aload_n eX0_listOne_18 rfl ?_
    refine q_getf (c := 0) (n := 0) (k := 0) (v := .int (Int32.ofInt ((ui s a 15 (s.1 a 15 - 1)).1 a 0))) eX0_listOne_19 (al_0 ha) (by decide) (by decide) fX0_41 rfl ?_
    refine q_si (v := Int32.ofInt 400) eX0_listOne_22 rfl ?_
    refine q_cz_lt (tgt := 32) (a := (ui s a 15 (s.1 a 15 - 1)).1 a 0) (b := 400) eX0_listOne_25 (by decide) (ofz ((ra_ui hA r1) _ _)) (ofz (r32l rfl)) (fun c25 => ?_) (fun c25 => ?_)
    · have h := h.1 c25
      refine q_ic (v := Int32.ofInt 0) eX0_listOne_32 rfl ?_
      exact q_subL rfl (h.1 ha (ra_ui hA r1) (r32l rfl))
    · have h := h.2 c25
      exact q_subL rfl (h.1 ha (ra_ui hA r1))
theorem eX0_list_0 : decode cX0_list 0 = .ok (.aload_n 0, 1) := by decide +kernel
theorem eX0_list_1 : decode cX0_list 1 = .ok (.iconst 0, 1) := by decide +kernel
theorem eX0_list_2 : decode cX0_list 2 = .ok (.putfield 41, 3) := by decide +kernel
theorem eX0_list_5 : decode cX0_list 5 = .ok (.aload_n 0, 1) := by decide +kernel
theorem eX0_list_6 : decode cX0_list 6 = .ok (.iconst 0, 1) := by decide +kernel
theorem eX0_list_7 : decode cX0_list 7 = .ok (.putfield 45, 3) := by decide +kernel
theorem eX0_list_10 : decode cX0_list 10 = .ok (.aload_n 0, 1) := by decide +kernel
theorem eX0_list_11 : decode cX0_list 11 = .ok (.iconst 0, 1) := by decide +kernel
theorem eX0_list_12 : decode cX0_list 12 = .ok (.putfield 49, 3) := by decide +kernel
theorem eX0_list_15 : decode cX0_list 15 = .ok (.aload_n 0, 1) := by decide +kernel
theorem eX0_list_16 : decode cX0_list 16 = .ok (.iconst 0, 1) := by decide +kernel
theorem eX0_list_17 : decode cX0_list 17 = .ok (.putfield 52, 3) := by decide +kernel
theorem eX0_list_20 : decode cX0_list 20 = .ok (.iconst 0, 1) := by decide +kernel
theorem eX0_list_21 : decode cX0_list 21 = .ok (.istore_n 1, 1) := by decide +kernel
theorem eX0_list_22 : decode cX0_list 22 = .ok (.iload_n 1, 1) := by decide +kernel
theorem eX0_list_23 : decode cX0_list 23 = .ok (.bipush 40, 2) := by decide +kernel
theorem eX0_list_25 : decode cX0_list 25 = .ok (.if_icmp .ge 23, 3) := by decide +kernel
theorem eX0_list_28 : decode cX0_list 28 = .ok (.aload_n 0, 1) := by decide +kernel
theorem eX0_list_29 : decode cX0_list 29 = .ok (.getfield 18, 3) := by decide +kernel
theorem eX0_list_32 : decode cX0_list 32 = .ok (.iload_n 1, 1) := by decide +kernel
theorem eX0_list_33 : decode cX0_list 33 = .ok (.iconst (-1), 1) := by decide +kernel
theorem eX0_list_34 : decode cX0_list 34 = .ok (.iastore, 1) := by decide +kernel
theorem eX0_list_35 : decode cX0_list 35 = .ok (.aload_n 0, 1) := by decide +kernel
theorem eX0_list_36 : decode cX0_list 36 = .ok (.getfield 21, 3) := by decide +kernel
theorem eX0_list_39 : decode cX0_list 39 = .ok (.iload_n 1, 1) := by decide +kernel
theorem eX0_list_40 : decode cX0_list 40 = .ok (.iconst (-1), 1) := by decide +kernel
theorem eX0_list_41 : decode cX0_list 41 = .ok (.iastore, 1) := by decide +kernel
theorem eX0_list_42 : decode cX0_list 42 = .ok (.iinc 1 1, 3) := by decide +kernel
theorem eX0_list_45 : decode cX0_list 45 = .ok (.goto (-23), 3) := by decide +kernel
theorem eX0_list_48 : decode cX0_list 48 = .ok (.iconst 0, 1) := by decide +kernel
theorem eX0_list_49 : decode cX0_list 49 = .ok (.istore_n 1, 1) := by decide +kernel
theorem eX0_list_50 : decode cX0_list 50 = .ok (.iload_n 1, 1) := by decide +kernel
theorem eX0_list_51 : decode cX0_list 51 = .ok (.aload_n 0, 1) := by decide +kernel
theorem eX0_list_52 : decode cX0_list 52 = .ok (.getfield 33, 3) := by decide +kernel
theorem eX0_list_55 : decode cX0_list 55 = .ok (.getfield 55, 3) := by decide +kernel
theorem eX0_list_58 : decode cX0_list 58 = .ok (.if_icmp .ge 74, 3) := by decide +kernel
theorem eX0_list_61 : decode cX0_list 61 = .ok (.iload_n 1, 1) := by decide +kernel
theorem eX0_list_62 : decode cX0_list 62 = .ok (.bipush 8, 2) := by decide +kernel
theorem eX0_list_64 : decode cX0_list 64 = .ok (.if_icmp .ge 68, 3) := by decide +kernel
theorem eX0_list_67 : decode cX0_list 67 = .ok (.aload_n 0, 1) := by decide +kernel
theorem eX0_list_68 : decode cX0_list 68 = .ok (.getfield 45, 3) := by decide +kernel
theorem eX0_list_71 : decode cX0_list 71 = .ok (.ifCond .ne 61, 3) := by decide +kernel
theorem eX0_list_74 : decode cX0_list 74 = .ok (.aload_n 0, 1) := by decide +kernel
theorem eX0_list_75 : decode cX0_list 75 = .ok (.iconst 0, 1) := by decide +kernel
theorem eX0_list_76 : decode cX0_list 76 = .ok (.putfield 60, 3) := by decide +kernel
theorem eX0_list_79 : decode cX0_list 79 = .ok (.aload_n 0, 1) := by decide +kernel
theorem eX0_list_80 : decode cX0_list 80 = .ok (.aload_n 0, 1) := by decide +kernel
theorem eX0_list_81 : decode cX0_list 81 = .ok (.getfield 33, 3) := by decide +kernel
theorem eX0_list_84 : decode cX0_list 84 = .ok (.iload_n 1, 1) := by decide +kernel
theorem eX0_list_85 : decode cX0_list 85 = .ok (.invokevirtual 63, 3) := by decide +kernel
theorem eX0_list_88 : decode cX0_list 88 = .ok (.iconst (-1), 1) := by decide +kernel
theorem eX0_list_89 : decode cX0_list 89 = .ok (.iconst 0, 1) := by decide +kernel
theorem eX0_list_90 : decode cX0_list 90 = .ok (.invokevirtual 67, 3) := by decide +kernel
theorem eX0_list_93 : decode cX0_list 93 = .ok (.iconst 0, 1) := by decide +kernel
theorem eX0_list_94 : decode cX0_list 94 = .ok (.istore_n 2, 1) := by decide +kernel
theorem eX0_list_95 : decode cX0_list 95 = .ok (.iload_n 2, 1) := by decide +kernel
theorem eX0_list_96 : decode cX0_list 96 = .ok (.sipush 400, 3) := by decide +kernel
theorem eX0_list_99 : decode cX0_list 99 = .ok (.if_icmp .gt 27, 3) := by decide +kernel
theorem eX0_list_102 : decode cX0_list 102 = .ok (.aload_n 0, 1) := by decide +kernel
theorem eX0_list_103 : decode cX0_list 103 = .ok (.getfield 60, 3) := by decide +kernel
theorem eX0_list_106 : decode cX0_list 106 = .ok (.ifCond .le 20, 3) := by decide +kernel
theorem eX0_list_109 : decode cX0_list 109 = .ok (.aload_n 0, 1) := by decide +kernel
theorem eX0_list_110 : decode cX0_list 110 = .ok (.getfield 45, 3) := by decide +kernel
theorem eX0_list_113 : decode cX0_list 113 = .ok (.ifCond .ne 13, 3) := by decide +kernel
theorem eX0_list_116 : decode cX0_list 116 = .ok (.aload_n 0, 1) := by decide +kernel
theorem eX0_list_117 : decode cX0_list 117 = .ok (.invokevirtual 71, 3) := by decide +kernel
theorem eX0_list_120 : decode cX0_list 120 = .ok (.iinc 2 1, 3) := by decide +kernel
theorem eX0_list_123 : decode cX0_list 123 = .ok (.goto (-28), 3) := by decide +kernel
theorem eX0_list_126 : decode cX0_list 126 = .ok (.iinc 1 1, 3) := by decide +kernel
theorem eX0_list_129 : decode cX0_list 129 = .ok (.goto (-79), 3) := by decide +kernel
theorem eX0_list_132 : decode cX0_list 132 = .ok (.return_, 1) := by decide +kernel
def C_X0_list (a : Nat) (s : ST) (Q : ST → Prop) : Prop := bx <| isA a → RA s → q_met mX0_list (qs layX s) [.ref a] (PV layX Q)
theorem C_X0_list.mono {a : Nat} {s : ST} {Q Q' : ST → Prop} (h : C_X0_list a s Q) (hq : ∀ s, Q s → Q' s) : C_X0_list a s Q' := ⟨fun ha hA => q_met.mono (h.1 ha hA) (fun _ _ => PV.mono hq), trivial⟩
def K_X0_list_95 (a : Nat) (s : ST) (a1 : Int) (a2 : Int) (Q : ST → Prop) : Prop := bx <| isA a → RA s → R32 a1 → R32 a2 → q_K mX0_list (qs layX s) 0 0 95 [(0, .ref a), (1, .int (Int32.ofInt a1)), (2, .int (Int32.ofInt a2))] [] (q_fin mX0_list (PV layX Q))
def K_X0_list_50 (a : Nat) (s : ST) (a1 : Int) (Q : ST → Prop) : Prop := bx <| isA a → RA s → R32 a1 → q_K mX0_list (qs layX s) 0 0 50 [(0, .ref a), (1, .int (Int32.ofInt a1))] [] (q_fin mX0_list (PV layX Q))
def K_X0_list_22 (a : Nat) (s : ST) (a1 : Int) (Q : ST → Prop) : Prop := bx <| isA a → RA s → R32 a1 → q_K mX0_list (qs layX s) 0 0 22 [(0, .ref a), (1, .int (Int32.ofInt a1))] [] (q_fin mX0_list (PV layX Q))
set_option maxRecDepth 20000 in
theorem s_X0_list_95 {a : Nat} {s : ST} {a1 : Int} {a2 : Int} {Q : ST → Prop} (h : isA a → RA s → R32 a1 → R32 a2 → ((400 < a2 → (R32 (a1 + 1) ∧ K_X0_list_50 a s (a1 + 1) Q)) ∧ (¬ 400 < a2 → ((s.1 a 15 ≤ 0 → (R32 (a1 + 1) ∧ K_X0_list_50 a s (a1 + 1) Q)) ∧ (¬ s.1 a 15 ≤ 0 → ((¬ s.1 a 1 = 0 → (R32 (a1 + 1) ∧ K_X0_list_50 a s (a1 + 1) Q)) ∧ (s.1 a 1 = 0 → (C_X0_listOne a s (fun s4 => (R32 (a2 + 1) ∧ K_X0_list_95 a s4 a1 (a2 + 1) Q)))))))))) : K_X0_list_95 a s a1 a2 Q := by
  refine ⟨?_, trivial⟩
  intro ha hA hra1 hra2
  have h := h ha hA hra1 hra2
  refine q_iload_n eX0_list_95 rfl ?_
  refine q_si (v := Int32.ofInt 400) eX0_list_96 rfl ?_
  refine q_cz_gt (tgt := 126) (a := a2) (b := 400) eX0_list_99 (by decide) (ofz hra2) (ofz (r32l rfl)) (fun c99 => ?_) (fun c99 => ?_)
  · have h := h.1 c99
    have r1 := h.1
    have h := h.2
    refine z_inc (m := 1) eX0_list_126 rfl (Nat.le_of_ble_eq_true rfl) rfl ?_
    refine q_goto (tgt := 50) eX0_list_129 (by decide) ?_
    exact q_subL rfl (h.1 ha hA r1)
  · have h := h.2 c99
    refine q_aload_n eX0_list_102 rfl ?_
    refine q_getf (c := 0) (n := 0) (k := 15) (v := .int (Int32.ofInt (s.1 a 15))) eX0_list_103 (al_0 ha) (by decide) (by decide) fX0_60 rfl ?_
    refine q_iz_le (tgt := 126) (a := s.1 a 15) eX0_list_106 (by decide) (ofz (hA _ _)) (fun c106 => ?_) (fun c106 => ?_)
    · have h := h.1 c106
      have r2 := h.1
      have h := h.2
      refine z_inc (m := 1) eX0_list_126 rfl (Nat.le_of_ble_eq_true rfl) rfl ?_
      refine q_goto (tgt := 50) eX0_list_129 (by decide) ?_
      exact q_subL rfl (h.1 ha hA r2)
    · have h := h.2 c106
      refine q_aload_n eX0_list_109 rfl ?_
      refine q_getf (c := 0) (n := 0) (k := 1) (v := .int (Int32.ofInt (s.1 a 1))) eX0_list_110 (al_0 ha) (by decide) (by decide) fX0_45 rfl ?_
      refine q_iz_ne (tgt := 126) (a := s.1 a 1) eX0_list_113 (by decide) (ofz (hA _ _)) (fun c113 => ?_) (fun c113 => ?_)
      · have h := h.1 c113
        have r3 := h.1
        have h := h.2
        refine z_inc (m := 1) eX0_list_126 rfl (Nat.le_of_ble_eq_true rfl) rfl ?_
        refine q_goto (tgt := 50) eX0_list_129 (by decide) ?_
        exact q_subL rfl (h.1 ha hA r3)
      · have h := h.2 c113
        refine q_aload_n eX0_list_116 rfl ?_
        refine q_V0 (ci := 0) (n := 0) eX0_list_117 DX0_listOne lX0_71 (al_0 ha) (by decide) rfl rfl rfl rfl (h.1 ha hA) ?_
        rintro _ _ ⟨s4, rfl, hA4, rfl, h⟩
        have r5 := h.1
        have h := h.2
        refine z_inc (m := 1) eX0_list_120 rfl (Nat.le_of_ble_eq_true rfl) rfl ?_
        refine q_goto (tgt := 95) eX0_list_123 (by decide) ?_
        exact q_subL rfl (h.1 ha hA4 hra1 r5)
set_option maxRecDepth 20000 in
theorem s_X0_list_50 {a : Nat} {s : ST} {a1 : Int} {Q : ST → Prop} (h : isA a → RA s → R32 a1 → ((s.1 (akT a) 0 ≤ a1 → Q s) ∧ (¬ s.1 (akT a) 0 ≤ a1 → ((8 ≤ a1 → Q s) ∧ (¬ 8 ≤ a1 → ((¬ s.1 a 1 = 0 → Q s) ∧ (s.1 a 1 = 0 → (P_X9_rootOf (akT a) (ui s a 15 0) a1 ∧ (C_X0_pileUp a (ui s a 15 0) (F_X9_rootOf (akT a) (ui s a 15 0) a1) (-1) 0 (fun s3 => K_X0_list_95 a s3 a1 0 Q)))))))))) : K_X0_list_50 a s a1 Q := by
  refine ⟨?_, trivial⟩
  intro ha hA hra1
  have h := h ha hA hra1
  refine q_iload_n eX0_list_50 rfl ?_
  refine q_aload_n eX0_list_51 rfl ?_
  refine q_getR (c := 0) (n := 0) (k := 6) (a := (akT a)) eX0_list_52 (al_0 ha) (by decide) (by decide) fX0_33 rfl (ar_6 ha) ?_
  refine q_getf (c := 9) (n := 0) (k := 0) (v := .int (Int32.ofInt (s.1 (akT a) 0))) eX0_list_55 (tl_0 (akT_ok ha)) (by decide) (by decide) fX0_55 rfl ?_
  refine q_cz_ge (tgt := 132) (a := a1) (b := s.1 (akT a) 0) eX0_list_58 (by decide) (ofz hra1) (ofz (hA _ _)) (fun c58 => ?_) (fun c58 => ?_)
  · have h := h.1 c58
    exact q_ret eX0_list_132 rfl ⟨_, rfl, hA, rfl, h⟩
  · have h := h.2 c58
    refine q_iload_n eX0_list_61 rfl ?_
    refine q_bi (v := Int32.ofInt 8) eX0_list_62 rfl ?_
    refine q_cz_ge (tgt := 132) (a := a1) (b := 8) eX0_list_64 (by decide) (ofz hra1) (ofz (r32l rfl)) (fun c64 => ?_) (fun c64 => ?_)
    · have h := h.1 c64
      exact q_ret eX0_list_132 rfl ⟨_, rfl, hA, rfl, h⟩
    · have h := h.2 c64
      refine q_aload_n eX0_list_67 rfl ?_
      refine q_getf (c := 0) (n := 0) (k := 1) (v := .int (Int32.ofInt (s.1 a 1))) eX0_list_68 (al_0 ha) (by decide) (by decide) fX0_45 rfl ?_
      refine q_iz_ne (tgt := 132) (a := s.1 a 1) eX0_list_71 (by decide) (ofz (hA _ _)) (fun c71 => ?_) (fun c71 => ?_)
      · have h := h.1 c71
        exact q_ret eX0_list_132 rfl ⟨_, rfl, hA, rfl, h⟩
      · have h := h.2 c71
        refine q_aload_n eX0_list_74 rfl ?_
        refine q_ic (v := Int32.ofInt 0) eX0_list_75 rfl ?_
        refine z_putI (c := 0) (n := 0) (k := 15) (kz := 15) eX0_list_76 (al_0 ha) (by decide) (by decide) fX0_60 rfl rfl rfl ?_
        refine q_aload_n eX0_list_79 rfl ?_
        refine q_aload_n eX0_list_80 rfl ?_
        refine q_getR (c := 0) (n := 0) (k := 6) (a := (akT a)) eX0_list_81 (al_0 ha) (by decide) (by decide) fX0_33 rfl (ar_6 ha) ?_
        refine q_iload_n eX0_list_84 rfl ?_
        have f2 := h.1
        have h := h.2
        refine q_V1 (ci := 9) (n := 0) eX0_list_85 DX9_rootOf lX0_63 (tl_0 (akT_ok ha)) (by decide) rfl rfl rfl rfl (p_X9_rootOf f2 (akT_ok ha) (ra_ui hA (r32l rfl)) hra1) ?_
        rintro _ _ ⟨r1, rfl, rfl⟩
        refine q_ic (v := Int32.ofInt (-1)) eX0_list_88 rfl ?_
        refine q_ic (v := Int32.ofInt 0) eX0_list_89 rfl ?_
        refine q_V3 (ci := 0) (n := 0) eX0_list_90 DX0_pileUp lX0_67 (al_0 ha) (by decide) rfl rfl rfl rfl (h.1 ha (ra_ui hA (r32l rfl)) r1 (r32l rfl) (r32l rfl)) ?_
        rintro _ _ ⟨s3, rfl, hA3, rfl, h⟩
        refine q_ic (v := Int32.ofInt 0) eX0_list_93 rfl ?_
        refine q_istore_n eX0_list_94 (Nat.le_of_ble_eq_true rfl) ?_
        exact q_subL rfl (h.1 ha hA3 hra1 (r32l rfl))
set_option maxRecDepth 20000 in
theorem s_X0_list_22 {a : Nat} {s : ST} {a1 : Int} {Q : ST → Prop} (h : isA a → RA s → R32 a1 → ((40 ≤ a1 → K_X0_list_50 a s 0 Q) ∧ (¬ 40 ≤ a1 → (((0 : Int) ≤ a1 ∧ a1 < 40) ∧ (R32 (a1 + 1) ∧ K_X0_list_22 a (ui (ui s (a + 3) a1 (-1)) (a + 4) a1 (-1)) (a1 + 1) Q))))) : K_X0_list_22 a s a1 Q := by
  refine ⟨?_, trivial⟩
  intro ha hA hra1
  have h := h ha hA hra1
  refine q_iload_n eX0_list_22 rfl ?_
  refine q_bi (v := Int32.ofInt 40) eX0_list_23 rfl ?_
  refine q_cz_ge (tgt := 48) (a := a1) (b := 40) eX0_list_25 (by decide) (ofz hra1) (ofz (r32l rfl)) (fun c25 => ?_) (fun c25 => ?_)
  · have h := h.1 c25
    refine q_ic (v := Int32.ofInt 0) eX0_list_48 rfl ?_
    refine q_istore_n eX0_list_49 (Nat.le_of_ble_eq_true rfl) ?_
    exact q_subL rfl (h.1 ha hA (r32l rfl))
  · have h := h.2 c25
    refine q_aload_n eX0_list_28 rfl ?_
    refine q_getR (c := 0) (n := 0) (k := 10) (a := (a + 3)) eX0_list_29 (al_0 ha) (by decide) (by decide) fX0_18 rfl (ar_10 ha) ?_
    refine q_iload_n eX0_list_32 rfl ?_
    refine q_ic (v := Int32.ofInt (-1)) eX0_list_33 rfl ?_
    have f1 := h.1
    have h := h.2
    refine z_iast (n := 40) eX0_list_34 (al_3 ha) (ofz hra1) f1  ?_
    refine q_aload_n eX0_list_35 rfl ?_
    refine q_getR (c := 0) (n := 0) (k := 11) (a := (a + 4)) eX0_list_36 (al_0 ha) (by decide) (by decide) fX0_21 rfl (ar_11 ha) ?_
    refine q_iload_n eX0_list_39 rfl ?_
    refine q_ic (v := Int32.ofInt (-1)) eX0_list_40 rfl ?_
    refine z_iast (n := 40) eX0_list_41 (al_4 ha) (ofz hra1) f1  ?_
    have r2 := h.1
    have h := h.2
    refine z_inc (m := 1) eX0_list_42 rfl (Nat.le_of_ble_eq_true rfl) rfl ?_
    refine q_goto (tgt := 22) eX0_list_45 (by decide) ?_
    exact q_subL rfl (h.1 ha (ra_ui (ra_ui hA (r32l rfl)) (r32l rfl)) r2)
set_option maxRecDepth 20000 in
theorem s_X0_list {a : Nat} {s : ST} {Q : ST → Prop} (h : isA a → RA s → K_X0_list_22 a (ui (ui (ui (ui s a 0 0) a 1 0) a 2 0) a 4 0) 0 Q) : C_X0_list a s Q := by
  refine ⟨?_, trivial⟩
  intro ha hA
  have h := h ha hA
  refine q_enter (by decide) (Nat.le_of_ble_eq_true rfl) ?_
  refine q_aload_n eX0_list_0 rfl ?_
  refine q_ic (v := Int32.ofInt 0) eX0_list_1 rfl ?_
  refine z_putI (c := 0) (n := 0) (k := 0) (kz := 0) eX0_list_2 (al_0 ha) (by decide) (by decide) fX0_41 rfl rfl rfl ?_
  refine q_aload_n eX0_list_5 rfl ?_
  refine q_ic (v := Int32.ofInt 0) eX0_list_6 rfl ?_
  refine z_putZ (c := 0) (n := 0) (k := 1) (kz := 1) eX0_list_7 (al_0 ha) (by decide) (by decide) fX0_45 rfl rfl rfl (z01 (Or.inl rfl)) ?_
  refine q_aload_n eX0_list_10 rfl ?_
  refine q_ic (v := Int32.ofInt 0) eX0_list_11 rfl ?_
  refine z_putZ (c := 0) (n := 0) (k := 2) (kz := 2) eX0_list_12 (al_0 ha) (by decide) (by decide) fX0_49 rfl rfl rfl (z01 (Or.inl rfl)) ?_
  refine q_aload_n eX0_list_15 rfl ?_
  refine q_ic (v := Int32.ofInt 0) eX0_list_16 rfl ?_
  refine z_putZ (c := 0) (n := 0) (k := 4) (kz := 4) eX0_list_17 (al_0 ha) (by decide) (by decide) fX0_52 rfl rfl rfl (z01 (Or.inl rfl)) ?_
  refine q_ic (v := Int32.ofInt 0) eX0_list_20 rfl ?_
  refine q_istore_n eX0_list_21 (Nat.le_of_ble_eq_true rfl) ?_
  exact q_subL rfl (h.1 ha (ra_ui (ra_ui (ra_ui (ra_ui hA (r32l rfl)) (r32l rfl)) (r32l rfl)) (r32l rfl)) (r32l rfl))
theorem eX0_nodeOf_0 : decode cX0_nodeOf 0 = .ok (.iload_n 1, 1) := by decide +kernel
theorem eX0_nodeOf_1 : decode cX0_nodeOf 1 = .ok (.ifCond .lt 31, 3) := by decide +kernel
theorem eX0_nodeOf_4 : decode cX0_nodeOf 4 = .ok (.iload_n 1, 1) := by decide +kernel
theorem eX0_nodeOf_5 : decode cX0_nodeOf 5 = .ok (.bipush 40, 2) := by decide +kernel
theorem eX0_nodeOf_7 : decode cX0_nodeOf 7 = .ok (.if_icmp .ge 25, 3) := by decide +kernel
theorem eX0_nodeOf_10 : decode cX0_nodeOf 10 = .ok (.aload_n 0, 1) := by decide +kernel
theorem eX0_nodeOf_11 : decode cX0_nodeOf 11 = .ok (.getfield 18, 3) := by decide +kernel
theorem eX0_nodeOf_14 : decode cX0_nodeOf 14 = .ok (.iload_n 1, 1) := by decide +kernel
theorem eX0_nodeOf_15 : decode cX0_nodeOf 15 = .ok (.iaload, 1) := by decide +kernel
theorem eX0_nodeOf_16 : decode cX0_nodeOf 16 = .ok (.iconst (-1), 1) := by decide +kernel
theorem eX0_nodeOf_17 : decode cX0_nodeOf 17 = .ok (.if_icmp .eq 15, 3) := by decide +kernel
theorem eX0_nodeOf_20 : decode cX0_nodeOf 20 = .ok (.aload_n 0, 1) := by decide +kernel
theorem eX0_nodeOf_21 : decode cX0_nodeOf 21 = .ok (.getfield 18, 3) := by decide +kernel
theorem eX0_nodeOf_24 : decode cX0_nodeOf 24 = .ok (.iload_n 1, 1) := by decide +kernel
theorem eX0_nodeOf_25 : decode cX0_nodeOf 25 = .ok (.iaload, 1) := by decide +kernel
theorem eX0_nodeOf_26 : decode cX0_nodeOf 26 = .ok (.invokestatic 78, 3) := by decide +kernel
theorem eX0_nodeOf_29 : decode cX0_nodeOf 29 = .ok (.goto 4, 3) := by decide +kernel
theorem eX0_nodeOf_32 : decode cX0_nodeOf 32 = .ok (.iconst (-1), 1) := by decide +kernel
theorem eX0_nodeOf_33 : decode cX0_nodeOf 33 = .ok (.ireturn, 1) := by decide +kernel
def C_X0_nodeOf (a : Nat) (s : ST) (p : Int) (Q : ST → Int → Prop) : Prop := bx <| isA a → RA s → R32 p → q_met mX0_nodeOf (qs layX s) [.ref a, .int (Int32.ofInt p)] (PI layX Q)
theorem C_X0_nodeOf.mono {a : Nat} {s : ST} {p : Int} {Q Q' : ST → Int → Prop} (h : C_X0_nodeOf a s p Q) (hq : ∀ s v, Q s v → Q' s v) : C_X0_nodeOf a s p Q' := ⟨fun ha hA hrp => q_met.mono (h.1 ha hA hrp) (fun _ _ => PI.mono hq), trivial⟩
set_option maxRecDepth 20000 in
theorem s_X0_nodeOf {a : Nat} {s : ST} {p : Int} {Q : ST → Int → Prop} (h : isA a → RA s → R32 p → ((p < 0 → Q s (-1)) ∧ (¬ p < 0 → ((40 ≤ p → Q s (-1)) ∧ (¬ 40 ≤ p → (((0 : Int) ≤ p ∧ p < 40) ∧ ((s.1 (a + 3) p = (-1) → Q s (-1)) ∧ (¬ s.1 (a + 3) p = (-1) → (P_X0_kindNode s (s.1 (a + 3) p) ∧ Q s (2 * (s.1 (a + 3) p))))))))))) : C_X0_nodeOf a s p Q := by
  refine ⟨?_, trivial⟩
  intro ha hA hrp
  have h := h ha hA hrp
  refine q_enter (by decide) (Nat.le_of_ble_eq_true rfl) ?_
  refine q_iload_n eX0_nodeOf_0 rfl ?_
  refine q_iz_lt (tgt := 32) (a := p) eX0_nodeOf_1 (by decide) (ofz hrp) (fun c1 => ?_) (fun c1 => ?_)
  · have h := h.1 c1
    refine q_ic (v := Int32.ofInt (-1)) eX0_nodeOf_32 rfl ?_
    exact q_iret eX0_nodeOf_33 rfl ⟨_, _, rfl, hA, (r32l rfl), rfl, h⟩
  · have h := h.2 c1
    refine q_iload_n eX0_nodeOf_4 rfl ?_
    refine q_bi (v := Int32.ofInt 40) eX0_nodeOf_5 rfl ?_
    refine q_cz_ge (tgt := 32) (a := p) (b := 40) eX0_nodeOf_7 (by decide) (ofz hrp) (ofz (r32l rfl)) (fun c7 => ?_) (fun c7 => ?_)
    · have h := h.1 c7
      refine q_ic (v := Int32.ofInt (-1)) eX0_nodeOf_32 rfl ?_
      exact q_iret eX0_nodeOf_33 rfl ⟨_, _, rfl, hA, (r32l rfl), rfl, h⟩
    · have h := h.2 c7
      refine q_aload_n eX0_nodeOf_10 rfl ?_
      refine q_getR (c := 0) (n := 0) (k := 10) (a := (a + 3)) eX0_nodeOf_11 (al_0 ha) (by decide) (by decide) fX0_18 rfl (ar_10 ha) ?_
      refine q_iload_n eX0_nodeOf_14 rfl ?_
      have f1 := h.1
      have h := h.2
      refine z_iald (n := 40) eX0_nodeOf_15 (al_3 ha) (ofz hrp) f1 ?_
      refine q_topI (v := Int32.ofInt (s.1 (a + 3) p)) rfl ?_
      refine q_ic (v := Int32.ofInt (-1)) eX0_nodeOf_16 rfl ?_
      refine q_cz_eq (tgt := 32) (a := s.1 (a + 3) p) (b := (-1)) eX0_nodeOf_17 (by decide) (ofz (hA _ _)) (ofz (r32l rfl)) (fun c17 => ?_) (fun c17 => ?_)
      · have h := h.1 c17
        refine q_ic (v := Int32.ofInt (-1)) eX0_nodeOf_32 rfl ?_
        exact q_iret eX0_nodeOf_33 rfl ⟨_, _, rfl, hA, (r32l rfl), rfl, h⟩
      · have h := h.2 c17
        refine q_aload_n eX0_nodeOf_20 rfl ?_
        refine q_getR (c := 0) (n := 0) (k := 10) (a := (a + 3)) eX0_nodeOf_21 (al_0 ha) (by decide) (by decide) fX0_18 rfl (ar_10 ha) ?_
        refine q_iload_n eX0_nodeOf_24 rfl ?_
        refine z_iald (n := 40) eX0_nodeOf_25 (al_3 ha) (ofz hrp) f1 ?_
        refine q_topI (v := Int32.ofInt (s.1 (a + 3) p)) rfl ?_
        have f3 := h.1
        have h := h.2
        refine q_S1 eX0_nodeOf_26 DX0_kindNode lX0_78 rfl rfl rfl (p_X0_kindNode f3 hA (hA _ _)) ?_
        rintro _ _ ⟨r2, rfl, rfl⟩
        refine q_goto (tgt := 33) eX0_nodeOf_29 (by decide) ?_
        exact q_iret eX0_nodeOf_33 rfl ⟨_, _, rfl, hA, r2, rfl, h⟩
def F_X0_nodeOf (a : Nat) (s : ST) (p : Int) : Int := (if p < 0 then (-1) else (if 40 ≤ p then (-1) else (if s.1 (a + 3) p = (-1) then (-1) else (2 * (s.1 (a + 3) p)))))
abbrev P_X0_nodeOf (a : Nat) (s : ST) (p : Int) : Prop := (¬ p < 0 → (¬ 40 ≤ p → (((0 : Int) ≤ p ∧ p < 40) ∧ (¬ s.1 (a + 3) p = (-1) → P_X0_kindNode s (s.1 (a + 3) p)))))
theorem w_X0_nodeOf {a : Nat} {s : ST} {p : Int} (h : P_X0_nodeOf a s p) : C_X0_nodeOf a s p (fun s' v => s' = s ∧ v = F_X0_nodeOf a s p) := by
  refine s_X0_nodeOf (fun ha hA hrp => ?_)
  unfold P_X0_nodeOf at h
  refine ⟨fun e0 => ?_, fun e0 => ?_⟩
  · exact ⟨rfl, by unfold F_X0_nodeOf; rw [if_pos e0]⟩
  · have h := h e0
    refine ⟨fun e1 => ?_, fun e1 => ?_⟩
    · exact ⟨rfl, by unfold F_X0_nodeOf; rw [if_neg e0, if_pos e1]⟩
    · have h := h e1
      refine ⟨h.1, ?_⟩
      have h := h.2
      refine ⟨fun e2 => ?_, fun e2 => ?_⟩
      · exact ⟨rfl, by unfold F_X0_nodeOf; rw [if_neg e0, if_neg e1, if_pos e2]⟩
      · have h := h e2
        refine ⟨h, ?_⟩
        exact ⟨rfl, by unfold F_X0_nodeOf; rw [if_neg e0, if_neg e1, if_neg e2]⟩
theorem p_X0_nodeOf {a : Nat} {s : ST} {p : Int} (h : P_X0_nodeOf a s p) : isA a → RA s → R32 p → q_met mX0_nodeOf (qs layX s) [.ref a, .int (Int32.ofInt p)] (fun σ r => R32 (F_X0_nodeOf a s p) ∧ σ = qs layX s ∧ r = some (.int (Int32.ofInt (F_X0_nodeOf a s p)))) := fun ha hA hrp => q_met.mono ((w_X0_nodeOf h).1 ha hA hrp) (by
  rintro _ _ ⟨s1, v1, rfl, h1, h2, rfl, rfl, rfl⟩
  exact ⟨h2, rfl, rfl⟩)
theorem eX9_all_0 : decode cX9_all 0 = .ok (.lconst 1, 1) := by decide +kernel
theorem eX9_all_1 : decode cX9_all 1 = .ok (.aload_n 0, 1) := by decide +kernel
theorem eX9_all_2 : decode cX9_all 2 = .ok (.getfield 59, 3) := by decide +kernel
theorem eX9_all_5 : decode cX9_all 5 = .ok (.lshl, 1) := by decide +kernel
theorem eX9_all_6 : decode cX9_all 6 = .ok (.lconst 1, 1) := by decide +kernel
theorem eX9_all_7 : decode cX9_all 7 = .ok (.lsub, 1) := by decide +kernel
theorem eX9_all_8 : decode cX9_all 8 = .ok (.lreturn, 1) := by decide +kernel
def C_X9_all (t : Nat) (s : ST) (Q : ST → Int64 → Prop) : Prop := bx <| isT t → RA s → q_met mX9_all (qs layX s) [.ref t] (PL layX Q)
theorem C_X9_all.mono {t : Nat} {s : ST} {Q Q' : ST → Int64 → Prop} (h : C_X9_all t s Q) (hq : ∀ s v, Q s v → Q' s v) : C_X9_all t s Q' := ⟨fun ht hA => q_met.mono (h.1 ht hA) (fun _ _ => PL.mono hq), trivial⟩
set_option maxRecDepth 20000 in
theorem s_X9_all {t : Nat} {s : ST} {Q : ST → Int64 → Prop} (h : isT t → RA s → Q s ((lshl 1 (s.1 t 1)) - 1)) : C_X9_all t s Q := by
  refine ⟨?_, trivial⟩
  intro ht hA
  have h := h ht hA
  refine q_enter (by decide) (Nat.le_of_ble_eq_true rfl) ?_
  refine q_lc (v := 1) eX9_all_0 rfl ?_
  refine q_aload_n eX9_all_1 rfl ?_
  refine q_getf (c := 9) (n := 0) (k := 1) (v := .int (Int32.ofInt (s.1 t 1))) eX9_all_2 (tl_0 ht) (by decide) (by decide) fX9_59 rfl ?_
  refine z_lshl eX9_all_5 ?_
  refine q_lc (v := 1) eX9_all_6 rfl ?_
  refine q_lsub eX9_all_7 ?_
  exact q_lret eX9_all_8 rfl ⟨_, _, rfl, hA, rfl, h⟩
def F_X9_all (t : Nat) (s : ST) : Int64 := ((lshl 1 (s.1 t 1)) - 1)
theorem w_X9_all {t : Nat} {s : ST} : C_X9_all t s (fun s' v => s' = s ∧ v = F_X9_all t s) := by
  refine s_X9_all (fun ht hA => ?_)
  exact ⟨rfl, rfl⟩
theorem p_X9_all {t : Nat} {s : ST} : isT t → RA s → q_met mX9_all (qs layX s) [.ref t] (fun σ r => σ = qs layX s ∧ r = some (.long (F_X9_all t s))) := fun ht hA => q_met.mono ((w_X9_all).1 ht hA) (by
  rintro _ _ ⟨s1, v1, rfl, h1, rfl, rfl, rfl⟩
  exact ⟨rfl, rfl⟩)
theorem eX4_make_0 : decode cX4_make 0 = .ok (.aload_n 0, 1) := by decide +kernel
theorem eX4_make_1 : decode cX4_make 1 = .ok (.getfield 33, 3) := by decide +kernel
theorem eX4_make_4 : decode cX4_make 4 = .ok (.ifCond .lt 13, 3) := by decide +kernel
theorem eX4_make_7 : decode cX4_make 7 = .ok (.aload_n 0, 1) := by decide +kernel
theorem eX4_make_8 : decode cX4_make 8 = .ok (.getfield 33, 3) := by decide +kernel
theorem eX4_make_11 : decode cX4_make 11 = .ok (.sipush 5602, 3) := by decide +kernel
theorem eX4_make_14 : decode cX4_make 14 = .ok (.if_icmp .lt 5, 3) := by decide +kernel
theorem eX4_make_17 : decode cX4_make 17 = .ok (.iconst (-1), 1) := by decide +kernel
theorem eX4_make_18 : decode cX4_make 18 = .ok (.ireturn, 1) := by decide +kernel
theorem eX4_make_19 : decode cX4_make 19 = .ok (.aload_n 0, 1) := by decide +kernel
theorem eX4_make_20 : decode cX4_make 20 = .ok (.getfield 33, 3) := by decide +kernel
theorem eX4_make_23 : decode cX4_make 23 = .ok (.istore 4, 2) := by decide +kernel
theorem eX4_make_25 : decode cX4_make 25 = .ok (.aload_n 0, 1) := by decide +kernel
theorem eX4_make_26 : decode cX4_make 26 = .ok (.dup, 1) := by decide +kernel
theorem eX4_make_27 : decode cX4_make 27 = .ok (.getfield 33, 3) := by decide +kernel
theorem eX4_make_30 : decode cX4_make 30 = .ok (.iconst 1, 1) := by decide +kernel
theorem eX4_make_31 : decode cX4_make 31 = .ok (.iadd, 1) := by decide +kernel
theorem eX4_make_32 : decode cX4_make 32 = .ok (.putfield 33, 3) := by decide +kernel
theorem eX4_make_35 : decode cX4_make 35 = .ok (.aload_n 0, 1) := by decide +kernel
theorem eX4_make_36 : decode cX4_make 36 = .ok (.getfield 11, 3) := by decide +kernel
theorem eX4_make_39 : decode cX4_make 39 = .ok (.iload 4, 2) := by decide +kernel
theorem eX4_make_41 : decode cX4_make 41 = .ok (.iload 4, 2) := by decide +kernel
theorem eX4_make_43 : decode cX4_make 43 = .ok (.iastore, 1) := by decide +kernel
theorem eX4_make_44 : decode cX4_make 44 = .ok (.aload_n 0, 1) := by decide +kernel
theorem eX4_make_45 : decode cX4_make 45 = .ok (.getfield 15, 3) := by decide +kernel
theorem eX4_make_48 : decode cX4_make 48 = .ok (.iload 4, 2) := by decide +kernel
theorem eX4_make_50 : decode cX4_make 50 = .ok (.iload_n 1, 1) := by decide +kernel
theorem eX4_make_51 : decode cX4_make 51 = .ok (.iastore, 1) := by decide +kernel
theorem eX4_make_52 : decode cX4_make 52 = .ok (.aload_n 0, 1) := by decide +kernel
theorem eX4_make_53 : decode cX4_make 53 = .ok (.getfield 18, 3) := by decide +kernel
theorem eX4_make_56 : decode cX4_make 56 = .ok (.iload 4, 2) := by decide +kernel
theorem eX4_make_58 : decode cX4_make 58 = .ok (.iload_n 2, 1) := by decide +kernel
theorem eX4_make_59 : decode cX4_make 59 = .ok (.iastore, 1) := by decide +kernel
theorem eX4_make_60 : decode cX4_make 60 = .ok (.aload_n 0, 1) := by decide +kernel
theorem eX4_make_61 : decode cX4_make 61 = .ok (.getfield 21, 3) := by decide +kernel
theorem eX4_make_64 : decode cX4_make 64 = .ok (.iload 4, 2) := by decide +kernel
theorem eX4_make_66 : decode cX4_make 66 = .ok (.iload_n 3, 1) := by decide +kernel
theorem eX4_make_67 : decode cX4_make 67 = .ok (.iastore, 1) := by decide +kernel
theorem eX4_make_68 : decode cX4_make 68 = .ok (.iload 4, 2) := by decide +kernel
theorem eX4_make_70 : decode cX4_make 70 = .ok (.ireturn, 1) := by decide +kernel
def C_X4_make (s : ST) (p : Int) (q : Int) (u : Int) (Q : ST → Int → Prop) : Prop := bx <| RA s → R32 p → R32 q → R32 u → q_met mX4_make (qs layX s) [.ref 38, .int (Int32.ofInt p), .int (Int32.ofInt q), .int (Int32.ofInt u)] (PI layX Q)
theorem C_X4_make.mono {s : ST} {p : Int} {q : Int} {u : Int} {Q Q' : ST → Int → Prop} (h : C_X4_make s p q u Q) (hq : ∀ s v, Q s v → Q' s v) : C_X4_make s p q u Q' := ⟨fun hA hrp hrq hru => q_met.mono (h.1 hA hrp hrq hru) (fun _ _ => PI.mono hq), trivial⟩
set_option maxRecDepth 20000 in
theorem s_X4_make {s : ST} {p : Int} {q : Int} {u : Int} {Q : ST → Int → Prop} (h : RA s → R32 p → R32 q → R32 u → ((s.1 38 2 < 0 → Q s (-1)) ∧ (¬ s.1 38 2 < 0 → ((s.1 38 2 < 5602 → (R32 (s.1 38 2 + 1) ∧ (((0 : Int) ≤ s.1 38 2 ∧ s.1 38 2 < 5602) ∧ Q (ui (ui (ui (ui (ui s 38 2 (s.1 38 2 + 1)) 39 (s.1 38 2) (s.1 38 2)) 40 (s.1 38 2) p) 41 (s.1 38 2) q) 42 (s.1 38 2) u) (s.1 38 2)))) ∧ (¬ s.1 38 2 < 5602 → Q s (-1)))))) : C_X4_make s p q u Q := by
  refine ⟨?_, trivial⟩
  intro hA hrp hrq hru
  have h := h hA hrp hrq hru
  refine q_enter (by decide) (Nat.le_of_ble_eq_true rfl) ?_
  refine q_aload_n eX4_make_0 rfl ?_
  refine q_getf (c := 4) (n := 0) (k := 2) (v := .int (Int32.ofInt (s.1 38 2))) eX4_make_1 rfl (by decide) (by decide) fX4_33 rfl ?_
  refine q_iz_lt (tgt := 17) (a := s.1 38 2) eX4_make_4 (by decide) (ofz (hA _ _)) (fun c4 => ?_) (fun c4 => ?_)
  · have h := h.1 c4
    refine q_ic (v := Int32.ofInt (-1)) eX4_make_17 rfl ?_
    exact q_iret eX4_make_18 rfl ⟨_, _, rfl, hA, (r32l rfl), rfl, h⟩
  · have h := h.2 c4
    refine q_aload_n eX4_make_7 rfl ?_
    refine q_getf (c := 4) (n := 0) (k := 2) (v := .int (Int32.ofInt (s.1 38 2))) eX4_make_8 rfl (by decide) (by decide) fX4_33 rfl ?_
    refine q_si (v := Int32.ofInt 5602) eX4_make_11 rfl ?_
    refine q_cz_lt (tgt := 19) (a := s.1 38 2) (b := 5602) eX4_make_14 (by decide) (ofz (hA _ _)) (ofz (r32l rfl)) (fun c14 => ?_) (fun c14 => ?_)
    · have h := h.1 c14
      refine q_aload_n eX4_make_19 rfl ?_
      refine q_getf (c := 4) (n := 0) (k := 2) (v := .int (Int32.ofInt (s.1 38 2))) eX4_make_20 rfl (by decide) (by decide) fX4_33 rfl ?_
      refine q_istore eX4_make_23 (Nat.le_of_ble_eq_true rfl) ?_
      refine q_aload_n eX4_make_25 rfl ?_
      refine q_dup eX4_make_26 rfl ?_
      refine q_getf (c := 4) (n := 0) (k := 2) (v := .int (Int32.ofInt (s.1 38 2))) eX4_make_27 rfl (by decide) (by decide) fX4_33 rfl ?_
      refine q_ic (v := Int32.ofInt 1) eX4_make_30 rfl ?_
      refine z_iadd eX4_make_31 ?_
      have r1 := h.1
      have h := h.2
      refine z_putI (c := 4) (n := 0) (k := 2) (kz := 2) eX4_make_32 rfl (by decide) (by decide) fX4_33 rfl rfl rfl ?_
      refine q_aload_n eX4_make_35 rfl ?_
      refine q_getR (c := 4) (n := 0) (k := 3) (a := 39) eX4_make_36 rfl (by decide) (by decide) fX4_11 rfl rfl ?_
      refine q_iload eX4_make_39 rfl ?_
      refine q_iload eX4_make_41 rfl ?_
      have f2 := h.1
      have h := h.2
      refine z_iast (n := 5602) eX4_make_43 rfl (ofz (hA _ _)) f2  ?_
      refine q_aload_n eX4_make_44 rfl ?_
      refine q_getR (c := 4) (n := 0) (k := 4) (a := 40) eX4_make_45 rfl (by decide) (by decide) fX4_15 rfl rfl ?_
      refine q_iload eX4_make_48 rfl ?_
      refine q_iload_n eX4_make_50 rfl ?_
      refine z_iast (n := 5602) eX4_make_51 rfl (ofz (hA _ _)) f2  ?_
      refine q_aload_n eX4_make_52 rfl ?_
      refine q_getR (c := 4) (n := 0) (k := 5) (a := 41) eX4_make_53 rfl (by decide) (by decide) fX4_18 rfl rfl ?_
      refine q_iload eX4_make_56 rfl ?_
      refine q_iload_n eX4_make_58 rfl ?_
      refine z_iast (n := 5602) eX4_make_59 rfl (ofz (hA _ _)) f2  ?_
      refine q_aload_n eX4_make_60 rfl ?_
      refine q_getR (c := 4) (n := 0) (k := 6) (a := 42) eX4_make_61 rfl (by decide) (by decide) fX4_21 rfl rfl ?_
      refine q_iload eX4_make_64 rfl ?_
      refine q_iload_n eX4_make_66 rfl ?_
      refine z_iast (n := 5602) eX4_make_67 rfl (ofz (hA _ _)) f2  ?_
      refine q_iload eX4_make_68 rfl ?_
      exact q_iret eX4_make_70 rfl ⟨_, _, rfl, (ra_ui (ra_ui (ra_ui (ra_ui (ra_ui hA r1) (hA _ _)) hrp) hrq) hru), (hA _ _), rfl, h⟩
    · have h := h.2 c14
      refine q_ic (v := Int32.ofInt (-1)) eX4_make_17 rfl ?_
      exact q_iret eX4_make_18 rfl ⟨_, _, rfl, hA, (r32l rfl), rfl, h⟩
theorem eX4_begin_0 : decode cX4_begin 0 = .ok (.aload_n 0, 1) := by decide +kernel
theorem eX4_begin_1 : decode cX4_begin 1 = .ok (.iconst 0, 1) := by decide +kernel
theorem eX4_begin_2 : decode cX4_begin 2 = .ok (.putfield 33, 3) := by decide +kernel
theorem eX4_begin_5 : decode cX4_begin 5 = .ok (.iconst 0, 1) := by decide +kernel
theorem eX4_begin_6 : decode cX4_begin 6 = .ok (.istore_n 2, 1) := by decide +kernel
theorem eX4_begin_7 : decode cX4_begin 7 = .ok (.iload_n 2, 1) := by decide +kernel
theorem eX4_begin_8 : decode cX4_begin 8 = .ok (.iload_n 1, 1) := by decide +kernel
theorem eX4_begin_9 : decode cX4_begin 9 = .ok (.if_icmp .ge 24, 3) := by decide +kernel
theorem eX4_begin_12 : decode cX4_begin 12 = .ok (.iload_n 2, 1) := by decide +kernel
theorem eX4_begin_13 : decode cX4_begin 13 = .ok (.sipush 5602, 3) := by decide +kernel
theorem eX4_begin_16 : decode cX4_begin 16 = .ok (.if_icmp .ge 17, 3) := by decide +kernel
theorem eX4_begin_19 : decode cX4_begin 19 = .ok (.aload_n 0, 1) := by decide +kernel
theorem eX4_begin_20 : decode cX4_begin 20 = .ok (.iconst 5, 1) := by decide +kernel
theorem eX4_begin_21 : decode cX4_begin 21 = .ok (.iconst (-1), 1) := by decide +kernel
theorem eX4_begin_22 : decode cX4_begin 22 = .ok (.iconst (-1), 1) := by decide +kernel
theorem eX4_begin_23 : decode cX4_begin 23 = .ok (.invokevirtual 37, 3) := by decide +kernel
theorem eX4_begin_26 : decode cX4_begin 26 = .ok (.pop, 1) := by decide +kernel
theorem eX4_begin_27 : decode cX4_begin 27 = .ok (.iinc 2 1, 3) := by decide +kernel
theorem eX4_begin_30 : decode cX4_begin 30 = .ok (.goto (-23), 3) := by decide +kernel
theorem eX4_begin_33 : decode cX4_begin 33 = .ok (.aload_n 0, 1) := by decide +kernel
theorem eX4_begin_34 : decode cX4_begin 34 = .ok (.aload_n 0, 1) := by decide +kernel
theorem eX4_begin_35 : decode cX4_begin 35 = .ok (.iconst 0, 1) := by decide +kernel
theorem eX4_begin_36 : decode cX4_begin 36 = .ok (.iconst (-1), 1) := by decide +kernel
theorem eX4_begin_37 : decode cX4_begin 37 = .ok (.iconst (-1), 1) := by decide +kernel
theorem eX4_begin_38 : decode cX4_begin 38 = .ok (.invokevirtual 37, 3) := by decide +kernel
theorem eX4_begin_41 : decode cX4_begin 41 = .ok (.putfield 41, 3) := by decide +kernel
theorem eX4_begin_44 : decode cX4_begin 44 = .ok (.aload_n 0, 1) := by decide +kernel
theorem eX4_begin_45 : decode cX4_begin 45 = .ok (.aload_n 0, 1) := by decide +kernel
theorem eX4_begin_46 : decode cX4_begin 46 = .ok (.iconst 1, 1) := by decide +kernel
theorem eX4_begin_47 : decode cX4_begin 47 = .ok (.iconst (-1), 1) := by decide +kernel
theorem eX4_begin_48 : decode cX4_begin 48 = .ok (.iconst (-1), 1) := by decide +kernel
theorem eX4_begin_49 : decode cX4_begin 49 = .ok (.invokevirtual 37, 3) := by decide +kernel
theorem eX4_begin_52 : decode cX4_begin 52 = .ok (.putfield 44, 3) := by decide +kernel
theorem eX4_begin_55 : decode cX4_begin 55 = .ok (.return_, 1) := by decide +kernel
def C_X4_begin (s : ST) (p : Int) (Q : ST → Prop) : Prop := bx <| RA s → R32 p → q_met mX4_begin (qs layX s) [.ref 38, .int (Int32.ofInt p)] (PV layX Q)
theorem C_X4_begin.mono {s : ST} {p : Int} {Q Q' : ST → Prop} (h : C_X4_begin s p Q) (hq : ∀ s, Q s → Q' s) : C_X4_begin s p Q' := ⟨fun hA hrp => q_met.mono (h.1 hA hrp) (fun _ _ => PV.mono hq), trivial⟩
def K_X4_begin_33 (s : ST) (Q : ST → Prop) : Prop := bx <| RA s → q_K mX4_begin (qs layX s) 0 0 33 [(0, .ref 38)] [] (q_fin mX4_begin (PV layX Q))
def K_X4_begin_7 (s : ST) (a1 : Int) (a2 : Int) (Q : ST → Prop) : Prop := bx <| RA s → R32 a1 → R32 a2 → q_K mX4_begin (qs layX s) 0 0 7 [(0, .ref 38), (1, .int (Int32.ofInt a1)), (2, .int (Int32.ofInt a2))] [] (q_fin mX4_begin (PV layX Q))
set_option maxRecDepth 20000 in
theorem s_X4_begin_33 {s : ST} {Q : ST → Prop} (h : RA s → (C_X4_make s 0 (-1) (-1) (fun s1 v1 => (C_X4_make (ui s1 38 0 v1) 1 (-1) (-1) (fun s2 v2 => Q (ui s2 38 1 v2)))))) : K_X4_begin_33 s Q := by
  refine ⟨?_, trivial⟩
  intro hA
  have h := h hA
  refine q_aload_n eX4_begin_33 rfl ?_
  refine q_aload_n eX4_begin_34 rfl ?_
  refine q_ic (v := Int32.ofInt 0) eX4_begin_35 rfl ?_
  refine q_ic (v := Int32.ofInt (-1)) eX4_begin_36 rfl ?_
  refine q_ic (v := Int32.ofInt (-1)) eX4_begin_37 rfl ?_
  refine q_V3 (ci := 4) (n := 0) eX4_begin_38 DX4_make lX4_37 rfl (by decide) rfl rfl rfl rfl (h.1 hA (r32l rfl) (r32l rfl) (r32l rfl)) ?_
  rintro _ _ ⟨s1, v1, rfl, hA1, r1, rfl, h⟩
  refine z_putI (c := 4) (n := 0) (k := 0) (kz := 0) eX4_begin_41 rfl (by decide) (by decide) fX4_41 rfl rfl rfl ?_
  refine q_aload_n eX4_begin_44 rfl ?_
  refine q_aload_n eX4_begin_45 rfl ?_
  refine q_ic (v := Int32.ofInt 1) eX4_begin_46 rfl ?_
  refine q_ic (v := Int32.ofInt (-1)) eX4_begin_47 rfl ?_
  refine q_ic (v := Int32.ofInt (-1)) eX4_begin_48 rfl ?_
  refine q_V3 (ci := 4) (n := 0) eX4_begin_49 DX4_make lX4_37 rfl (by decide) rfl rfl rfl rfl (h.1 (ra_ui hA1 r1) (r32l rfl) (r32l rfl) (r32l rfl)) ?_
  rintro _ _ ⟨s2, v2, rfl, hA2, r2, rfl, h⟩
  refine z_putI (c := 4) (n := 0) (k := 1) (kz := 1) eX4_begin_52 rfl (by decide) (by decide) fX4_44 rfl rfl rfl ?_
  exact q_ret eX4_begin_55 rfl ⟨_, rfl, (ra_ui hA2 r2), rfl, h⟩
set_option maxRecDepth 20000 in
theorem s_X4_begin_7 {s : ST} {a1 : Int} {a2 : Int} {Q : ST → Prop} (h : RA s → R32 a1 → R32 a2 → ((a1 ≤ a2 → K_X4_begin_33 s Q) ∧ (¬ a1 ≤ a2 → ((5602 ≤ a2 → K_X4_begin_33 s Q) ∧ (¬ 5602 ≤ a2 → (C_X4_make s 5 (-1) (-1) (fun s1 v1 => (R32 (a2 + 1) ∧ K_X4_begin_7 s1 a1 (a2 + 1) Q)))))))) : K_X4_begin_7 s a1 a2 Q := by
  refine ⟨?_, trivial⟩
  intro hA hra1 hra2
  have h := h hA hra1 hra2
  refine q_iload_n eX4_begin_7 rfl ?_
  refine q_iload_n eX4_begin_8 rfl ?_
  refine q_cz_ge (tgt := 33) (a := a2) (b := a1) eX4_begin_9 (by decide) (ofz hra2) (ofz hra1) (fun c9 => ?_) (fun c9 => ?_)
  · have h := h.1 c9
    exact q_subL rfl (h.1 hA)
  · have h := h.2 c9
    refine q_iload_n eX4_begin_12 rfl ?_
    refine q_si (v := Int32.ofInt 5602) eX4_begin_13 rfl ?_
    refine q_cz_ge (tgt := 33) (a := a2) (b := 5602) eX4_begin_16 (by decide) (ofz hra2) (ofz (r32l rfl)) (fun c16 => ?_) (fun c16 => ?_)
    · have h := h.1 c16
      exact q_subL rfl (h.1 hA)
    · have h := h.2 c16
      refine q_aload_n eX4_begin_19 rfl ?_
      refine q_ic (v := Int32.ofInt 5) eX4_begin_20 rfl ?_
      refine q_ic (v := Int32.ofInt (-1)) eX4_begin_21 rfl ?_
      refine q_ic (v := Int32.ofInt (-1)) eX4_begin_22 rfl ?_
      refine q_V3 (ci := 4) (n := 0) eX4_begin_23 DX4_make lX4_37 rfl (by decide) rfl rfl rfl rfl (h.1 hA (r32l rfl) (r32l rfl) (r32l rfl)) ?_
      rintro _ _ ⟨s1, v1, rfl, hA1, r1, rfl, h⟩
      refine q_pop eX4_begin_26 rfl ?_
      have r2 := h.1
      have h := h.2
      refine z_inc (m := 1) eX4_begin_27 rfl (Nat.le_of_ble_eq_true rfl) rfl ?_
      refine q_goto (tgt := 7) eX4_begin_30 (by decide) ?_
      exact q_subL rfl (h.1 hA1 hra1 r2)
set_option maxRecDepth 20000 in
theorem s_X4_begin {s : ST} {p : Int} {Q : ST → Prop} (h : RA s → R32 p → K_X4_begin_7 (ui s 38 2 0) p 0 Q) : C_X4_begin s p Q := by
  refine ⟨?_, trivial⟩
  intro hA hrp
  have h := h hA hrp
  refine q_enter (by decide) (Nat.le_of_ble_eq_true rfl) ?_
  refine q_aload_n eX4_begin_0 rfl ?_
  refine q_ic (v := Int32.ofInt 0) eX4_begin_1 rfl ?_
  refine z_putI (c := 4) (n := 0) (k := 2) (kz := 2) eX4_begin_2 rfl (by decide) (by decide) fX4_33 rfl rfl rfl ?_
  refine q_ic (v := Int32.ofInt 0) eX4_begin_5 rfl ?_
  refine q_istore_n eX4_begin_6 (Nat.le_of_ble_eq_true rfl) ?_
  exact q_subL rfl (h.1 (ra_ui hA (r32l rfl)) hrp (r32l rfl))
theorem eX4_chief_0 : decode cX4_chief 0 = .ok (.iload_n 1, 1) := by decide +kernel
theorem eX4_chief_1 : decode cX4_chief 1 = .ok (.ifCond .lt 18, 3) := by decide +kernel
theorem eX4_chief_4 : decode cX4_chief 4 = .ok (.iload_n 1, 1) := by decide +kernel
theorem eX4_chief_5 : decode cX4_chief 5 = .ok (.aload_n 0, 1) := by decide +kernel
theorem eX4_chief_6 : decode cX4_chief 6 = .ok (.getfield 33, 3) := by decide +kernel
theorem eX4_chief_9 : decode cX4_chief 9 = .ok (.if_icmp .ge 10, 3) := by decide +kernel
theorem eX4_chief_12 : decode cX4_chief 12 = .ok (.iload_n 1, 1) := by decide +kernel
theorem eX4_chief_13 : decode cX4_chief 13 = .ok (.sipush 5602, 3) := by decide +kernel
theorem eX4_chief_16 : decode cX4_chief 16 = .ok (.if_icmp .lt 5, 3) := by decide +kernel
theorem eX4_chief_19 : decode cX4_chief 19 = .ok (.iconst (-1), 1) := by decide +kernel
theorem eX4_chief_20 : decode cX4_chief 20 = .ok (.ireturn, 1) := by decide +kernel
theorem eX4_chief_21 : decode cX4_chief 21 = .ok (.iload_n 1, 1) := by decide +kernel
theorem eX4_chief_22 : decode cX4_chief 22 = .ok (.istore_n 2, 1) := by decide +kernel
theorem eX4_chief_23 : decode cX4_chief 23 = .ok (.iconst 0, 1) := by decide +kernel
theorem eX4_chief_24 : decode cX4_chief 24 = .ok (.istore_n 3, 1) := by decide +kernel
theorem eX4_chief_25 : decode cX4_chief 25 = .ok (.iload_n 3, 1) := by decide +kernel
theorem eX4_chief_26 : decode cX4_chief 26 = .ok (.sipush 5602, 3) := by decide +kernel
theorem eX4_chief_29 : decode cX4_chief 29 = .ok (.if_icmp .ge 43, 3) := by decide +kernel
theorem eX4_chief_32 : decode cX4_chief 32 = .ok (.aload_n 0, 1) := by decide +kernel
theorem eX4_chief_33 : decode cX4_chief 33 = .ok (.getfield 11, 3) := by decide +kernel
theorem eX4_chief_36 : decode cX4_chief 36 = .ok (.iload_n 2, 1) := by decide +kernel
theorem eX4_chief_37 : decode cX4_chief 37 = .ok (.iaload, 1) := by decide +kernel
theorem eX4_chief_38 : decode cX4_chief 38 = .ok (.iload_n 2, 1) := by decide +kernel
theorem eX4_chief_39 : decode cX4_chief 39 = .ok (.if_icmp .eq 33, 3) := by decide +kernel
theorem eX4_chief_42 : decode cX4_chief 42 = .ok (.aload_n 0, 1) := by decide +kernel
theorem eX4_chief_43 : decode cX4_chief 43 = .ok (.getfield 11, 3) := by decide +kernel
theorem eX4_chief_46 : decode cX4_chief 46 = .ok (.iload_n 2, 1) := by decide +kernel
theorem eX4_chief_47 : decode cX4_chief 47 = .ok (.aload_n 0, 1) := by decide +kernel
theorem eX4_chief_48 : decode cX4_chief 48 = .ok (.getfield 11, 3) := by decide +kernel
theorem eX4_chief_51 : decode cX4_chief 51 = .ok (.aload_n 0, 1) := by decide +kernel
theorem eX4_chief_52 : decode cX4_chief 52 = .ok (.getfield 11, 3) := by decide +kernel
theorem eX4_chief_55 : decode cX4_chief 55 = .ok (.iload_n 2, 1) := by decide +kernel
theorem eX4_chief_56 : decode cX4_chief 56 = .ok (.iaload, 1) := by decide +kernel
theorem eX4_chief_57 : decode cX4_chief 57 = .ok (.iaload, 1) := by decide +kernel
theorem eX4_chief_58 : decode cX4_chief 58 = .ok (.iastore, 1) := by decide +kernel
theorem eX4_chief_59 : decode cX4_chief 59 = .ok (.aload_n 0, 1) := by decide +kernel
theorem eX4_chief_60 : decode cX4_chief 60 = .ok (.getfield 11, 3) := by decide +kernel
theorem eX4_chief_63 : decode cX4_chief 63 = .ok (.iload_n 2, 1) := by decide +kernel
theorem eX4_chief_64 : decode cX4_chief 64 = .ok (.iaload, 1) := by decide +kernel
theorem eX4_chief_65 : decode cX4_chief 65 = .ok (.istore_n 2, 1) := by decide +kernel
theorem eX4_chief_66 : decode cX4_chief 66 = .ok (.iinc 3 1, 3) := by decide +kernel
theorem eX4_chief_69 : decode cX4_chief 69 = .ok (.goto (-44), 3) := by decide +kernel
theorem eX4_chief_72 : decode cX4_chief 72 = .ok (.iload_n 2, 1) := by decide +kernel
theorem eX4_chief_73 : decode cX4_chief 73 = .ok (.ireturn, 1) := by decide +kernel
def C_X4_chief (s : ST) (p : Int) (Q : ST → Int → Prop) : Prop := bx <| RA s → R32 p → q_met mX4_chief (qs layX s) [.ref 38, .int (Int32.ofInt p)] (PI layX Q)
theorem C_X4_chief.mono {s : ST} {p : Int} {Q Q' : ST → Int → Prop} (h : C_X4_chief s p Q) (hq : ∀ s v, Q s v → Q' s v) : C_X4_chief s p Q' := ⟨fun hA hrp => q_met.mono (h.1 hA hrp) (fun _ _ => PI.mono hq), trivial⟩
def K_X4_chief_25 (s : ST) (a2 : Int) (a3 : Int) (Q : ST → Int → Prop) : Prop := bx <| RA s → R32 a2 → R32 a3 → q_K mX4_chief (qs layX s) 0 0 25 [(0, .ref 38), (2, .int (Int32.ofInt a2)), (3, .int (Int32.ofInt a3))] [] (q_fin mX4_chief (PI layX Q))
set_option maxRecDepth 20000 in
theorem s_X4_chief_25 {s : ST} {a2 : Int} {a3 : Int} {Q : ST → Int → Prop} (h : RA s → R32 a2 → R32 a3 → ((5602 ≤ a3 → Q s a2) ∧ (¬ 5602 ≤ a3 → (((0 : Int) ≤ a2 ∧ a2 < 5602) ∧ ((s.1 39 a2 = a2 → Q s a2) ∧ (¬ s.1 39 a2 = a2 → (((0 : Int) ≤ s.1 39 a2 ∧ s.1 39 a2 < 5602) ∧ (R32 (a3 + 1) ∧ K_X4_chief_25 (ui s 39 a2 (s.1 39 (s.1 39 a2))) ((ui s 39 a2 (s.1 39 (s.1 39 a2))).1 39 a2) (a3 + 1) Q)))))))) : K_X4_chief_25 s a2 a3 Q := by
  refine ⟨?_, trivial⟩
  intro hA hra2 hra3
  have h := h hA hra2 hra3
  refine q_iload_n eX4_chief_25 rfl ?_
  refine q_si (v := Int32.ofInt 5602) eX4_chief_26 rfl ?_
  refine q_cz_ge (tgt := 72) (a := a3) (b := 5602) eX4_chief_29 (by decide) (ofz hra3) (ofz (r32l rfl)) (fun c29 => ?_) (fun c29 => ?_)
  · have h := h.1 c29
    refine q_iload_n eX4_chief_72 rfl ?_
    exact q_iret eX4_chief_73 rfl ⟨_, _, rfl, hA, hra2, rfl, h⟩
  · have h := h.2 c29
    refine q_aload_n eX4_chief_32 rfl ?_
    refine q_getR (c := 4) (n := 0) (k := 3) (a := 39) eX4_chief_33 rfl (by decide) (by decide) fX4_11 rfl rfl ?_
    refine q_iload_n eX4_chief_36 rfl ?_
    have f1 := h.1
    have h := h.2
    refine z_iald (n := 5602) eX4_chief_37 rfl (ofz hra2) f1 ?_
    refine q_topI (v := Int32.ofInt (s.1 39 a2)) rfl ?_
    refine q_iload_n eX4_chief_38 rfl ?_
    refine q_cz_eq (tgt := 72) (a := s.1 39 a2) (b := a2) eX4_chief_39 (by decide) (ofz (hA _ _)) (ofz hra2) (fun c39 => ?_) (fun c39 => ?_)
    · have h := h.1 c39
      refine q_iload_n eX4_chief_72 rfl ?_
      exact q_iret eX4_chief_73 rfl ⟨_, _, rfl, hA, hra2, rfl, h⟩
    · have h := h.2 c39
      refine q_aload_n eX4_chief_42 rfl ?_
      refine q_getR (c := 4) (n := 0) (k := 3) (a := 39) eX4_chief_43 rfl (by decide) (by decide) fX4_11 rfl rfl ?_
      refine q_iload_n eX4_chief_46 rfl ?_
      refine q_aload_n eX4_chief_47 rfl ?_
      refine q_getR (c := 4) (n := 0) (k := 3) (a := 39) eX4_chief_48 rfl (by decide) (by decide) fX4_11 rfl rfl ?_
      refine q_aload_n eX4_chief_51 rfl ?_
      refine q_getR (c := 4) (n := 0) (k := 3) (a := 39) eX4_chief_52 rfl (by decide) (by decide) fX4_11 rfl rfl ?_
      refine q_iload_n eX4_chief_55 rfl ?_
      refine z_iald (n := 5602) eX4_chief_56 rfl (ofz hra2) f1 ?_
      refine q_topI (v := Int32.ofInt (s.1 39 a2)) rfl ?_
      have f2 := h.1
      have h := h.2
      refine z_iald (n := 5602) eX4_chief_57 rfl (ofz (hA _ _)) f2 ?_
      refine q_topI (v := Int32.ofInt (s.1 39 (s.1 39 a2))) rfl ?_
      refine z_iast (n := 5602) eX4_chief_58 rfl (ofz hra2) f1  ?_
      refine q_aload_n eX4_chief_59 rfl ?_
      refine q_getR (c := 4) (n := 0) (k := 3) (a := 39) eX4_chief_60 rfl (by decide) (by decide) fX4_11 rfl rfl ?_
      refine q_iload_n eX4_chief_63 rfl ?_
      refine z_iald (n := 5602) eX4_chief_64 rfl (ofz hra2) f1 ?_
      refine q_topI (v := Int32.ofInt ((ui s 39 a2 (s.1 39 (s.1 39 a2))).1 39 a2)) rfl ?_
      refine q_istore_n eX4_chief_65 (Nat.le_of_ble_eq_true rfl) ?_
      have r3 := h.1
      have h := h.2
      refine z_inc (m := 1) eX4_chief_66 rfl (Nat.le_of_ble_eq_true rfl) rfl ?_
      refine q_goto (tgt := 25) eX4_chief_69 (by decide) ?_
      exact q_subL rfl (h.1 (ra_ui hA (hA _ _)) ((ra_ui hA (hA _ _)) _ _) r3)
set_option maxRecDepth 20000 in
theorem s_X4_chief {s : ST} {p : Int} {Q : ST → Int → Prop} (h : RA s → R32 p → ((p < 0 → Q s (-1)) ∧ (¬ p < 0 → ((s.1 38 2 ≤ p → Q s (-1)) ∧ (¬ s.1 38 2 ≤ p → ((p < 5602 → K_X4_chief_25 s p 0 Q) ∧ (¬ p < 5602 → Q s (-1)))))))) : C_X4_chief s p Q := by
  refine ⟨?_, trivial⟩
  intro hA hrp
  have h := h hA hrp
  refine q_enter (by decide) (Nat.le_of_ble_eq_true rfl) ?_
  refine q_iload_n eX4_chief_0 rfl ?_
  refine q_iz_lt (tgt := 19) (a := p) eX4_chief_1 (by decide) (ofz hrp) (fun c1 => ?_) (fun c1 => ?_)
  · have h := h.1 c1
    refine q_ic (v := Int32.ofInt (-1)) eX4_chief_19 rfl ?_
    exact q_iret eX4_chief_20 rfl ⟨_, _, rfl, hA, (r32l rfl), rfl, h⟩
  · have h := h.2 c1
    refine q_iload_n eX4_chief_4 rfl ?_
    refine q_aload_n eX4_chief_5 rfl ?_
    refine q_getf (c := 4) (n := 0) (k := 2) (v := .int (Int32.ofInt (s.1 38 2))) eX4_chief_6 rfl (by decide) (by decide) fX4_33 rfl ?_
    refine q_cz_ge (tgt := 19) (a := p) (b := s.1 38 2) eX4_chief_9 (by decide) (ofz hrp) (ofz (hA _ _)) (fun c9 => ?_) (fun c9 => ?_)
    · have h := h.1 c9
      refine q_ic (v := Int32.ofInt (-1)) eX4_chief_19 rfl ?_
      exact q_iret eX4_chief_20 rfl ⟨_, _, rfl, hA, (r32l rfl), rfl, h⟩
    · have h := h.2 c9
      refine q_iload_n eX4_chief_12 rfl ?_
      refine q_si (v := Int32.ofInt 5602) eX4_chief_13 rfl ?_
      refine q_cz_lt (tgt := 21) (a := p) (b := 5602) eX4_chief_16 (by decide) (ofz hrp) (ofz (r32l rfl)) (fun c16 => ?_) (fun c16 => ?_)
      · have h := h.1 c16
        refine q_iload_n eX4_chief_21 rfl ?_
        refine q_istore_n eX4_chief_22 (Nat.le_of_ble_eq_true rfl) ?_
        refine q_ic (v := Int32.ofInt 0) eX4_chief_23 rfl ?_
        refine q_istore_n eX4_chief_24 (Nat.le_of_ble_eq_true rfl) ?_
        exact q_subL rfl (h.1 hA hrp (r32l rfl))
      · have h := h.2 c16
        refine q_ic (v := Int32.ofInt (-1)) eX4_chief_19 rfl ?_
        exact q_iret eX4_chief_20 rfl ⟨_, _, rfl, hA, (r32l rfl), rfl, h⟩
