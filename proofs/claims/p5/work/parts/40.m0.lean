/-! STEP ROWS of the reference. By program (wip/wp/gen_parts.py). -/
theorem eX11_sign_0 : decode cX11_sign 0 = .ok (.iload_n 1, 1) := by decide +kernel
theorem eX11_sign_1 : decode cX11_sign 1 = .ok (.aload_n 0, 1) := by decide +kernel
theorem eX11_sign_2 : decode cX11_sign 2 = .ok (.getfield 219, 3) := by decide +kernel
theorem eX11_sign_5 : decode cX11_sign 5 = .ok (.if_icmp .ge 16, 3) := by decide +kernel
theorem eX11_sign_8 : decode cX11_sign 8 = .ok (.aload_n 0, 1) := by decide +kernel
theorem eX11_sign_9 : decode cX11_sign 9 = .ok (.getfield 13, 3) := by decide +kernel
theorem eX11_sign_12 : decode cX11_sign 12 = .ok (.iload_n 1, 1) := by decide +kernel
theorem eX11_sign_13 : decode cX11_sign 13 = .ok (.baload, 1) := by decide +kernel
theorem eX11_sign_14 : decode cX11_sign 14 = .ok (.sipush 255, 3) := by decide +kernel
theorem eX11_sign_17 : decode cX11_sign 17 = .ok (.iand, 1) := by decide +kernel
theorem eX11_sign_18 : decode cX11_sign 18 = .ok (.goto 4, 3) := by decide +kernel
theorem eX11_sign_21 : decode cX11_sign 21 = .ok (.iconst 0, 1) := by decide +kernel
theorem eX11_sign_22 : decode cX11_sign 22 = .ok (.ireturn, 1) := by decide +kernel
def C_X11_sign (s : ST) (p : Int) (Q : ST → Int → Prop) : Prop := bx <| RA s → R32 p → q_met mX11_sign (qs layM s) [.ref 139, .int (Int32.ofInt p)] (PI layM Q)
theorem C_X11_sign.mono {s : ST} {p : Int} {Q Q' : ST → Int → Prop} (h : C_X11_sign s p Q) (hq : ∀ s v, Q s v → Q' s v) : C_X11_sign s p Q' := ⟨fun hA hrp => q_met.mono (h.1 hA hrp) (fun _ _ => PI.mono hq), trivial⟩
set_option maxRecDepth 20000 in
theorem s_X11_sign {s : ST} {p : Int} {Q : ST → Int → Prop} (h : RA s → R32 p → ((s.1 139 3 ≤ p → Q s 0) ∧ (¬ s.1 139 3 ≤ p → (((0 : Int) ≤ p ∧ p < 1600) ∧ Q s (iand (s.1 141 p) 255))))) : C_X11_sign s p Q := by
  refine ⟨?_, trivial⟩
  intro hA hrp
  have h := h hA hrp
  refine q_enter (by decide) (Nat.le_of_ble_eq_true rfl) ?_
  refine q_iload_n eX11_sign_0 rfl ?_
  refine q_aload_n eX11_sign_1 rfl ?_
  refine q_getf (c := 11) (n := 0) (k := 3) (v := .int (Int32.ofInt (s.1 139 3))) eX11_sign_2 rfl (by decide) (by decide) fX11_219 rfl ?_
  refine q_cz_ge (tgt := 21) (a := p) (b := s.1 139 3) eX11_sign_5 (by decide) (ofz hrp) (ofz (hA _ _)) (fun c5 => ?_) (fun c5 => ?_)
  · have h := h.1 c5
    refine q_ic (v := Int32.ofInt 0) eX11_sign_21 rfl ?_
    exact q_iret eX11_sign_22 rfl ⟨_, _, rfl, hA, (r32l rfl), rfl, h⟩
  · have h := h.2 c5
    refine q_aload_n eX11_sign_8 rfl ?_
    refine q_getR (c := 11) (n := 0) (k := 1) (a := 141) eX11_sign_9 rfl (by decide) (by decide) fX11_13 rfl rfl ?_
    refine q_iload_n eX11_sign_12 rfl ?_
    have f1 := h.1
    have h := h.2
    refine z_bald (n := 1600) eX11_sign_13 rfl (ofz hrp) f1 ?_
    refine q_topI (v := Int32.ofInt (s.1 141 p)) rfl ?_
    refine q_si (v := Int32.ofInt 255) eX11_sign_14 rfl ?_
    refine z_iand eX11_sign_17 ?_
    refine q_goto (tgt := 22) eX11_sign_18 (by decide) ?_
    exact q_iret eX11_sign_22 rfl ⟨_, _, rfl, hA, (iand_r _ _), rfl, h⟩
def F_X11_sign (s : ST) (p : Int) : Int := (if s.1 139 3 ≤ p then 0 else (iand (s.1 141 p) 255))
abbrev P_X11_sign (s : ST) (p : Int) : Prop := (¬ s.1 139 3 ≤ p → ((0 : Int) ≤ p ∧ p < 1600))
theorem w_X11_sign {s : ST} {p : Int} (h : P_X11_sign s p) : C_X11_sign s p (fun s' v => s' = s ∧ v = F_X11_sign s p) := by
  refine s_X11_sign (fun hA hrp => ?_)
  unfold P_X11_sign at h
  refine ⟨fun e0 => ?_, fun e0 => ?_⟩
  · exact ⟨rfl, by unfold F_X11_sign; rw [if_pos e0]⟩
  · have h := h e0
    refine ⟨h, ?_⟩
    exact ⟨rfl, by unfold F_X11_sign; rw [if_neg e0]⟩
theorem p_X11_sign {s : ST} {p : Int} (h : P_X11_sign s p) : RA s → R32 p → q_met mX11_sign (qs layM s) [.ref 139, .int (Int32.ofInt p)] (fun σ r => R32 (F_X11_sign s p) ∧ σ = qs layM s ∧ r = some (.int (Int32.ofInt (F_X11_sign s p)))) := fun hA hrp => q_met.mono ((w_X11_sign h).1 hA hrp) (by
  rintro _ _ ⟨s1, v1, rfl, h1, h2, rfl, rfl, rfl⟩
  exact ⟨h2, rfl, rfl⟩)
theorem eX11_isLetter_0 : decode cX11_isLetter 0 = .ok (.iload_n 0, 1) := by decide +kernel
theorem eX11_isLetter_1 : decode cX11_isLetter 1 = .ok (.bipush 97, 2) := by decide +kernel
theorem eX11_isLetter_3 : decode cX11_isLetter 3 = .ok (.if_icmp .lt 13, 3) := by decide +kernel
theorem eX11_isLetter_6 : decode cX11_isLetter 6 = .ok (.iload_n 0, 1) := by decide +kernel
theorem eX11_isLetter_7 : decode cX11_isLetter 7 = .ok (.bipush 122, 2) := by decide +kernel
theorem eX11_isLetter_9 : decode cX11_isLetter 9 = .ok (.if_icmp .gt 7, 3) := by decide +kernel
theorem eX11_isLetter_12 : decode cX11_isLetter 12 = .ok (.iconst 1, 1) := by decide +kernel
theorem eX11_isLetter_13 : decode cX11_isLetter 13 = .ok (.goto 4, 3) := by decide +kernel
theorem eX11_isLetter_16 : decode cX11_isLetter 16 = .ok (.iconst 0, 1) := by decide +kernel
theorem eX11_isLetter_17 : decode cX11_isLetter 17 = .ok (.ireturn, 1) := by decide +kernel
def C_X11_isLetter (s : ST) (p : Int) (Q : ST → Int → Prop) : Prop := bx <| RA s → R32 p → q_met mX11_isLetter (qs layM s) [.int (Int32.ofInt p)] (PB layM Q)
theorem C_X11_isLetter.mono {s : ST} {p : Int} {Q Q' : ST → Int → Prop} (h : C_X11_isLetter s p Q) (hq : ∀ s v, Q s v → Q' s v) : C_X11_isLetter s p Q' := ⟨fun hA hrp => q_met.mono (h.1 hA hrp) (fun _ _ => PB.mono hq), trivial⟩
set_option maxRecDepth 20000 in
theorem s_X11_isLetter {s : ST} {p : Int} {Q : ST → Int → Prop} (h : RA s → R32 p → ((p < 97 → Q s 0) ∧ (¬ p < 97 → ((122 < p → Q s 0) ∧ (¬ 122 < p → Q s 1))))) : C_X11_isLetter s p Q := by
  refine ⟨?_, trivial⟩
  intro hA hrp
  have h := h hA hrp
  refine q_enter (by decide) (Nat.le_of_ble_eq_true rfl) ?_
  refine q_iload_n eX11_isLetter_0 rfl ?_
  refine q_bi (v := Int32.ofInt 97) eX11_isLetter_1 rfl ?_
  refine q_cz_lt (tgt := 16) (a := p) (b := 97) eX11_isLetter_3 (by decide) (ofz hrp) (ofz (r32l rfl)) (fun c3 => ?_) (fun c3 => ?_)
  · have h := h.1 c3
    refine q_ic (v := Int32.ofInt 0) eX11_isLetter_16 rfl ?_
    exact q_zret eX11_isLetter_17 rfl (z01 (Or.inl rfl)) ⟨_, _, rfl, hA, (Or.inl rfl), rfl, h⟩
  · have h := h.2 c3
    refine q_iload_n eX11_isLetter_6 rfl ?_
    refine q_bi (v := Int32.ofInt 122) eX11_isLetter_7 rfl ?_
    refine q_cz_gt (tgt := 16) (a := p) (b := 122) eX11_isLetter_9 (by decide) (ofz hrp) (ofz (r32l rfl)) (fun c9 => ?_) (fun c9 => ?_)
    · have h := h.1 c9
      refine q_ic (v := Int32.ofInt 0) eX11_isLetter_16 rfl ?_
      exact q_zret eX11_isLetter_17 rfl (z01 (Or.inl rfl)) ⟨_, _, rfl, hA, (Or.inl rfl), rfl, h⟩
    · have h := h.2 c9
      refine q_ic (v := Int32.ofInt 1) eX11_isLetter_12 rfl ?_
      refine q_goto (tgt := 17) eX11_isLetter_13 (by decide) ?_
      exact q_zret eX11_isLetter_17 rfl (z01 (Or.inr rfl)) ⟨_, _, rfl, hA, (Or.inr rfl), rfl, h⟩
def F_X11_isLetter (s : ST) (p : Int) : Int := (if p < 97 then 0 else (if 122 < p then 0 else 1))
theorem w_X11_isLetter {s : ST} {p : Int} : C_X11_isLetter s p (fun s' v => s' = s ∧ v = F_X11_isLetter s p) := by
  refine s_X11_isLetter (fun hA hrp => ?_)
  refine ⟨fun e0 => ?_, fun e0 => ?_⟩
  · exact ⟨rfl, by unfold F_X11_isLetter; rw [if_pos e0]⟩
  · refine ⟨fun e1 => ?_, fun e1 => ?_⟩
    · exact ⟨rfl, by unfold F_X11_isLetter; rw [if_neg e0, if_pos e1]⟩
    · exact ⟨rfl, by unfold F_X11_isLetter; rw [if_neg e0, if_neg e1]⟩
theorem p_X11_isLetter {s : ST} {p : Int} : RA s → R32 p → q_met mX11_isLetter (qs layM s) [.int (Int32.ofInt p)] (fun σ r => (F_X11_isLetter s p = 0 ∨ F_X11_isLetter s p = 1) ∧ σ = qs layM s ∧ r = some (.int (Int32.ofInt (F_X11_isLetter s p)))) := fun hA hrp => q_met.mono ((w_X11_isLetter).1 hA hrp) (by
  rintro _ _ ⟨s1, v1, rfl, h1, h2, rfl, rfl, rfl⟩
  exact ⟨h2, rfl, rfl⟩)
theorem n_X11_isLetter {s : ST} {p : Int} : ¬ F_X11_isLetter s p = 0 ↔ (¬ p < 97 ∧ ¬ 122 < p) := by
  unfold F_X11_isLetter
  first | omega | ((repeat' split) <;> simp_all) | ((repeat' split) <;> (simp_all <;> omega))
theorem eX11_isDigit_0 : decode cX11_isDigit 0 = .ok (.iload_n 0, 1) := by decide +kernel
theorem eX11_isDigit_1 : decode cX11_isDigit 1 = .ok (.bipush 48, 2) := by decide +kernel
theorem eX11_isDigit_3 : decode cX11_isDigit 3 = .ok (.if_icmp .lt 13, 3) := by decide +kernel
theorem eX11_isDigit_6 : decode cX11_isDigit 6 = .ok (.iload_n 0, 1) := by decide +kernel
theorem eX11_isDigit_7 : decode cX11_isDigit 7 = .ok (.bipush 57, 2) := by decide +kernel
theorem eX11_isDigit_9 : decode cX11_isDigit 9 = .ok (.if_icmp .gt 7, 3) := by decide +kernel
theorem eX11_isDigit_12 : decode cX11_isDigit 12 = .ok (.iconst 1, 1) := by decide +kernel
theorem eX11_isDigit_13 : decode cX11_isDigit 13 = .ok (.goto 4, 3) := by decide +kernel
theorem eX11_isDigit_16 : decode cX11_isDigit 16 = .ok (.iconst 0, 1) := by decide +kernel
theorem eX11_isDigit_17 : decode cX11_isDigit 17 = .ok (.ireturn, 1) := by decide +kernel
def C_X11_isDigit (s : ST) (p : Int) (Q : ST → Int → Prop) : Prop := bx <| RA s → R32 p → q_met mX11_isDigit (qs layM s) [.int (Int32.ofInt p)] (PB layM Q)
theorem C_X11_isDigit.mono {s : ST} {p : Int} {Q Q' : ST → Int → Prop} (h : C_X11_isDigit s p Q) (hq : ∀ s v, Q s v → Q' s v) : C_X11_isDigit s p Q' := ⟨fun hA hrp => q_met.mono (h.1 hA hrp) (fun _ _ => PB.mono hq), trivial⟩
set_option maxRecDepth 20000 in
theorem s_X11_isDigit {s : ST} {p : Int} {Q : ST → Int → Prop} (h : RA s → R32 p → ((p < 48 → Q s 0) ∧ (¬ p < 48 → ((57 < p → Q s 0) ∧ (¬ 57 < p → Q s 1))))) : C_X11_isDigit s p Q := by
  refine ⟨?_, trivial⟩
  intro hA hrp
  have h := h hA hrp
  refine q_enter (by decide) (Nat.le_of_ble_eq_true rfl) ?_
  refine q_iload_n eX11_isDigit_0 rfl ?_
  refine q_bi (v := Int32.ofInt 48) eX11_isDigit_1 rfl ?_
  refine q_cz_lt (tgt := 16) (a := p) (b := 48) eX11_isDigit_3 (by decide) (ofz hrp) (ofz (r32l rfl)) (fun c3 => ?_) (fun c3 => ?_)
  · have h := h.1 c3
    refine q_ic (v := Int32.ofInt 0) eX11_isDigit_16 rfl ?_
    exact q_zret eX11_isDigit_17 rfl (z01 (Or.inl rfl)) ⟨_, _, rfl, hA, (Or.inl rfl), rfl, h⟩
  · have h := h.2 c3
    refine q_iload_n eX11_isDigit_6 rfl ?_
    refine q_bi (v := Int32.ofInt 57) eX11_isDigit_7 rfl ?_
    refine q_cz_gt (tgt := 16) (a := p) (b := 57) eX11_isDigit_9 (by decide) (ofz hrp) (ofz (r32l rfl)) (fun c9 => ?_) (fun c9 => ?_)
    · have h := h.1 c9
      refine q_ic (v := Int32.ofInt 0) eX11_isDigit_16 rfl ?_
      exact q_zret eX11_isDigit_17 rfl (z01 (Or.inl rfl)) ⟨_, _, rfl, hA, (Or.inl rfl), rfl, h⟩
    · have h := h.2 c9
      refine q_ic (v := Int32.ofInt 1) eX11_isDigit_12 rfl ?_
      refine q_goto (tgt := 17) eX11_isDigit_13 (by decide) ?_
      exact q_zret eX11_isDigit_17 rfl (z01 (Or.inr rfl)) ⟨_, _, rfl, hA, (Or.inr rfl), rfl, h⟩
def F_X11_isDigit (s : ST) (p : Int) : Int := (if p < 48 then 0 else (if 57 < p then 0 else 1))
theorem w_X11_isDigit {s : ST} {p : Int} : C_X11_isDigit s p (fun s' v => s' = s ∧ v = F_X11_isDigit s p) := by
  refine s_X11_isDigit (fun hA hrp => ?_)
  refine ⟨fun e0 => ?_, fun e0 => ?_⟩
  · exact ⟨rfl, by unfold F_X11_isDigit; rw [if_pos e0]⟩
  · refine ⟨fun e1 => ?_, fun e1 => ?_⟩
    · exact ⟨rfl, by unfold F_X11_isDigit; rw [if_neg e0, if_pos e1]⟩
    · exact ⟨rfl, by unfold F_X11_isDigit; rw [if_neg e0, if_neg e1]⟩
theorem p_X11_isDigit {s : ST} {p : Int} : RA s → R32 p → q_met mX11_isDigit (qs layM s) [.int (Int32.ofInt p)] (fun σ r => (F_X11_isDigit s p = 0 ∨ F_X11_isDigit s p = 1) ∧ σ = qs layM s ∧ r = some (.int (Int32.ofInt (F_X11_isDigit s p)))) := fun hA hrp => q_met.mono ((w_X11_isDigit).1 hA hrp) (by
  rintro _ _ ⟨s1, v1, rfl, h1, h2, rfl, rfl, rfl⟩
  exact ⟨h2, rfl, rfl⟩)
theorem n_X11_isDigit {s : ST} {p : Int} : ¬ F_X11_isDigit s p = 0 ↔ (¬ p < 48 ∧ ¬ 57 < p) := by
  unfold F_X11_isDigit
  first | omega | ((repeat' split) <;> simp_all) | ((repeat' split) <;> (simp_all <;> omega))
theorem eX11_fails_0 : decode cX11_fails 0 = .ok (.aload_n 0, 1) := by decide +kernel
theorem eX11_fails_1 : decode cX11_fails 1 = .ok (.getfield 222, 3) := by decide +kernel
theorem eX11_fails_4 : decode cX11_fails 4 = .ok (.ifCond .le 4, 3) := by decide +kernel
theorem eX11_fails_7 : decode cX11_fails 7 = .ok (.return_, 1) := by decide +kernel
theorem eX11_fails_8 : decode cX11_fails 8 = .ok (.aload_n 0, 1) := by decide +kernel
theorem eX11_fails_9 : decode cX11_fails 9 = .ok (.iload_n 1, 1) := by decide +kernel
theorem eX11_fails_10 : decode cX11_fails 10 = .ok (.putfield 222, 3) := by decide +kernel
theorem eX11_fails_13 : decode cX11_fails 13 = .ok (.aload_n 0, 1) := by decide +kernel
theorem eX11_fails_14 : decode cX11_fails 14 = .ok (.iload_n 2, 1) := by decide +kernel
theorem eX11_fails_15 : decode cX11_fails 15 = .ok (.putfield 16, 3) := by decide +kernel
theorem eX11_fails_18 : decode cX11_fails 18 = .ok (.return_, 1) := by decide +kernel
def C_X11_fails (s : ST) (p : Int) (q : Int) (Q : ST → Prop) : Prop := bx <| RA s → R32 p → R32 q → q_met mX11_fails (qs layM s) [.ref 139, .int (Int32.ofInt p), .int (Int32.ofInt q)] (PV layM Q)
theorem C_X11_fails.mono {s : ST} {p : Int} {q : Int} {Q Q' : ST → Prop} (h : C_X11_fails s p q Q) (hq : ∀ s, Q s → Q' s) : C_X11_fails s p q Q' := ⟨fun hA hrp hrq => q_met.mono (h.1 hA hrp hrq) (fun _ _ => PV.mono hq), trivial⟩
set_option maxRecDepth 20000 in
theorem s_X11_fails {s : ST} {p : Int} {q : Int} {Q : ST → Prop} (h : RA s → R32 p → R32 q → ((s.1 139 4 ≤ 0 → Q (ui (ui s 139 4 p) 139 5 q)) ∧ (¬ s.1 139 4 ≤ 0 → Q s))) : C_X11_fails s p q Q := by
  refine ⟨?_, trivial⟩
  intro hA hrp hrq
  have h := h hA hrp hrq
  refine q_enter (by decide) (Nat.le_of_ble_eq_true rfl) ?_
  refine q_aload_n eX11_fails_0 rfl ?_
  refine q_getf (c := 11) (n := 0) (k := 4) (v := .int (Int32.ofInt (s.1 139 4))) eX11_fails_1 rfl (by decide) (by decide) fX11_222 rfl ?_
  refine q_iz_le (tgt := 8) (a := s.1 139 4) eX11_fails_4 (by decide) (ofz (hA _ _)) (fun c4 => ?_) (fun c4 => ?_)
  · have h := h.1 c4
    refine q_aload_n eX11_fails_8 rfl ?_
    refine q_iload_n eX11_fails_9 rfl ?_
    refine z_putI (c := 11) (n := 0) (k := 4) (kz := 4) eX11_fails_10 rfl (by decide) (by decide) fX11_222 rfl rfl rfl ?_
    refine q_aload_n eX11_fails_13 rfl ?_
    refine q_iload_n eX11_fails_14 rfl ?_
    refine z_putI (c := 11) (n := 0) (k := 5) (kz := 5) eX11_fails_15 rfl (by decide) (by decide) fX11_16 rfl rfl rfl ?_
    exact q_ret eX11_fails_18 rfl ⟨_, rfl, (ra_ui (ra_ui hA hrp) hrq), rfl, h⟩
  · have h := h.2 c4
    exact q_ret eX11_fails_7 rfl ⟨_, rfl, hA, rfl, h⟩
theorem eX11_isGood_0 : decode cX11_isGood 0 = .ok (.aload_n 0, 1) := by decide +kernel
theorem eX11_isGood_1 : decode cX11_isGood 1 = .ok (.getfield 222, 3) := by decide +kernel
theorem eX11_isGood_4 : decode cX11_isGood 4 = .ok (.ifCond .ne 7, 3) := by decide +kernel
theorem eX11_isGood_7 : decode cX11_isGood 7 = .ok (.iconst 1, 1) := by decide +kernel
theorem eX11_isGood_8 : decode cX11_isGood 8 = .ok (.goto 4, 3) := by decide +kernel
theorem eX11_isGood_11 : decode cX11_isGood 11 = .ok (.iconst 0, 1) := by decide +kernel
theorem eX11_isGood_12 : decode cX11_isGood 12 = .ok (.ireturn, 1) := by decide +kernel
def C_X11_isGood (s : ST) (Q : ST → Int → Prop) : Prop := bx <| RA s → q_met mX11_isGood (qs layM s) [.ref 139] (PB layM Q)
theorem C_X11_isGood.mono {s : ST} {Q Q' : ST → Int → Prop} (h : C_X11_isGood s Q) (hq : ∀ s v, Q s v → Q' s v) : C_X11_isGood s Q' := ⟨fun hA => q_met.mono (h.1 hA) (fun _ _ => PB.mono hq), trivial⟩
set_option maxRecDepth 20000 in
theorem s_X11_isGood {s : ST} {Q : ST → Int → Prop} (h : RA s → ((¬ s.1 139 4 = 0 → Q s 0) ∧ (s.1 139 4 = 0 → Q s 1))) : C_X11_isGood s Q := by
  refine ⟨?_, trivial⟩
  intro hA
  have h := h hA
  refine q_enter (by decide) (Nat.le_of_ble_eq_true rfl) ?_
  refine q_aload_n eX11_isGood_0 rfl ?_
  refine q_getf (c := 11) (n := 0) (k := 4) (v := .int (Int32.ofInt (s.1 139 4))) eX11_isGood_1 rfl (by decide) (by decide) fX11_222 rfl ?_
  refine q_iz_ne (tgt := 11) (a := s.1 139 4) eX11_isGood_4 (by decide) (ofz (hA _ _)) (fun c4 => ?_) (fun c4 => ?_)
  · have h := h.1 c4
    refine q_ic (v := Int32.ofInt 0) eX11_isGood_11 rfl ?_
    exact q_zret eX11_isGood_12 rfl (z01 (Or.inl rfl)) ⟨_, _, rfl, hA, (Or.inl rfl), rfl, h⟩
  · have h := h.2 c4
    refine q_ic (v := Int32.ofInt 1) eX11_isGood_7 rfl ?_
    refine q_goto (tgt := 12) eX11_isGood_8 (by decide) ?_
    exact q_zret eX11_isGood_12 rfl (z01 (Or.inr rfl)) ⟨_, _, rfl, hA, (Or.inr rfl), rfl, h⟩
def F_X11_isGood (s : ST) : Int := (if s.1 139 4 = 0 then 1 else 0)
theorem w_X11_isGood {s : ST} : C_X11_isGood s (fun s' v => s' = s ∧ v = F_X11_isGood s) := by
  refine s_X11_isGood (fun hA => ?_)
  refine ⟨fun e0 => ?_, fun e0 => ?_⟩
  · exact ⟨rfl, by unfold F_X11_isGood; rw [if_neg e0]⟩
  · exact ⟨rfl, by unfold F_X11_isGood; rw [if_pos e0]⟩
theorem p_X11_isGood {s : ST} : RA s → q_met mX11_isGood (qs layM s) [.ref 139] (fun σ r => (F_X11_isGood s = 0 ∨ F_X11_isGood s = 1) ∧ σ = qs layM s ∧ r = some (.int (Int32.ofInt (F_X11_isGood s)))) := fun hA => q_met.mono ((w_X11_isGood).1 hA) (by
  rintro _ _ ⟨s1, v1, rfl, h1, h2, rfl, rfl, rfl⟩
  exact ⟨h2, rfl, rfl⟩)
theorem n_X11_isGood {s : ST} : ¬ F_X11_isGood s = 0 ↔ s.1 139 4 = 0 := by
  unfold F_X11_isGood
  first | omega | ((repeat' split) <;> simp_all) | ((repeat' split) <;> (simp_all <;> omega))
theorem eX11_isKept_0 : decode cX11_isKept 0 = .ok (.lload_n 0, 1) := by decide +kernel
theorem eX11_isKept_1 : decode cX11_isKept 1 = .ok (.ldc2_w 225, 3) := by decide +kernel
theorem eX11_isKept_4 : decode cX11_isKept 4 = .ok (.lcmp, 1) := by decide +kernel
theorem eX11_isKept_5 : decode cX11_isKept 5 = .ok (.ifCond .eq 59, 3) := by decide +kernel
theorem eX11_isKept_8 : decode cX11_isKept 8 = .ok (.lload_n 0, 1) := by decide +kernel
theorem eX11_isKept_9 : decode cX11_isKept 9 = .ok (.ldc2_w 227, 3) := by decide +kernel
theorem eX11_isKept_12 : decode cX11_isKept 12 = .ok (.lcmp, 1) := by decide +kernel
theorem eX11_isKept_13 : decode cX11_isKept 13 = .ok (.ifCond .eq 51, 3) := by decide +kernel
theorem eX11_isKept_16 : decode cX11_isKept 16 = .ok (.lload_n 0, 1) := by decide +kernel
theorem eX11_isKept_17 : decode cX11_isKept 17 = .ok (.ldc2_w 229, 3) := by decide +kernel
theorem eX11_isKept_20 : decode cX11_isKept 20 = .ok (.lcmp, 1) := by decide +kernel
theorem eX11_isKept_21 : decode cX11_isKept 21 = .ok (.ifCond .eq 43, 3) := by decide +kernel
theorem eX11_isKept_24 : decode cX11_isKept 24 = .ok (.lload_n 0, 1) := by decide +kernel
theorem eX11_isKept_25 : decode cX11_isKept 25 = .ok (.ldc2_w 231, 3) := by decide +kernel
theorem eX11_isKept_28 : decode cX11_isKept 28 = .ok (.lcmp, 1) := by decide +kernel
theorem eX11_isKept_29 : decode cX11_isKept 29 = .ok (.ifCond .eq 35, 3) := by decide +kernel
theorem eX11_isKept_32 : decode cX11_isKept 32 = .ok (.lload_n 0, 1) := by decide +kernel
theorem eX11_isKept_33 : decode cX11_isKept 33 = .ok (.ldc2_w 233, 3) := by decide +kernel
theorem eX11_isKept_36 : decode cX11_isKept 36 = .ok (.lcmp, 1) := by decide +kernel
theorem eX11_isKept_37 : decode cX11_isKept 37 = .ok (.ifCond .eq 27, 3) := by decide +kernel
theorem eX11_isKept_40 : decode cX11_isKept 40 = .ok (.lload_n 0, 1) := by decide +kernel
theorem eX11_isKept_41 : decode cX11_isKept 41 = .ok (.ldc2_w 235, 3) := by decide +kernel
theorem eX11_isKept_44 : decode cX11_isKept 44 = .ok (.lcmp, 1) := by decide +kernel
theorem eX11_isKept_45 : decode cX11_isKept 45 = .ok (.ifCond .eq 19, 3) := by decide +kernel
theorem eX11_isKept_48 : decode cX11_isKept 48 = .ok (.lload_n 0, 1) := by decide +kernel
theorem eX11_isKept_49 : decode cX11_isKept 49 = .ok (.ldc2_w 237, 3) := by decide +kernel
theorem eX11_isKept_52 : decode cX11_isKept 52 = .ok (.lcmp, 1) := by decide +kernel
theorem eX11_isKept_53 : decode cX11_isKept 53 = .ok (.ifCond .eq 11, 3) := by decide +kernel
theorem eX11_isKept_56 : decode cX11_isKept 56 = .ok (.lload_n 0, 1) := by decide +kernel
theorem eX11_isKept_57 : decode cX11_isKept 57 = .ok (.ldc2_w 239, 3) := by decide +kernel
theorem eX11_isKept_60 : decode cX11_isKept 60 = .ok (.lcmp, 1) := by decide +kernel
theorem eX11_isKept_61 : decode cX11_isKept 61 = .ok (.ifCond .ne 7, 3) := by decide +kernel
theorem eX11_isKept_64 : decode cX11_isKept 64 = .ok (.iconst 1, 1) := by decide +kernel
theorem eX11_isKept_65 : decode cX11_isKept 65 = .ok (.goto 4, 3) := by decide +kernel
theorem eX11_isKept_68 : decode cX11_isKept 68 = .ok (.iconst 0, 1) := by decide +kernel
theorem eX11_isKept_69 : decode cX11_isKept 69 = .ok (.istore_n 2, 1) := by decide +kernel
theorem eX11_isKept_70 : decode cX11_isKept 70 = .ok (.lload_n 0, 1) := by decide +kernel
theorem eX11_isKept_71 : decode cX11_isKept 71 = .ok (.ldc2_w 241, 3) := by decide +kernel
theorem eX11_isKept_74 : decode cX11_isKept 74 = .ok (.lcmp, 1) := by decide +kernel
theorem eX11_isKept_75 : decode cX11_isKept 75 = .ok (.ifCond .eq 59, 3) := by decide +kernel
theorem eX11_isKept_78 : decode cX11_isKept 78 = .ok (.lload_n 0, 1) := by decide +kernel
theorem eX11_isKept_79 : decode cX11_isKept 79 = .ok (.ldc2_w 243, 3) := by decide +kernel
theorem eX11_isKept_82 : decode cX11_isKept 82 = .ok (.lcmp, 1) := by decide +kernel
theorem eX11_isKept_83 : decode cX11_isKept 83 = .ok (.ifCond .eq 51, 3) := by decide +kernel
theorem eX11_isKept_86 : decode cX11_isKept 86 = .ok (.lload_n 0, 1) := by decide +kernel
theorem eX11_isKept_87 : decode cX11_isKept 87 = .ok (.ldc2_w 245, 3) := by decide +kernel
theorem eX11_isKept_90 : decode cX11_isKept 90 = .ok (.lcmp, 1) := by decide +kernel
theorem eX11_isKept_91 : decode cX11_isKept 91 = .ok (.ifCond .eq 43, 3) := by decide +kernel
theorem eX11_isKept_94 : decode cX11_isKept 94 = .ok (.lload_n 0, 1) := by decide +kernel
theorem eX11_isKept_95 : decode cX11_isKept 95 = .ok (.ldc2_w 247, 3) := by decide +kernel
theorem eX11_isKept_98 : decode cX11_isKept 98 = .ok (.lcmp, 1) := by decide +kernel
theorem eX11_isKept_99 : decode cX11_isKept 99 = .ok (.ifCond .eq 35, 3) := by decide +kernel
theorem eX11_isKept_102 : decode cX11_isKept 102 = .ok (.lload_n 0, 1) := by decide +kernel
theorem eX11_isKept_103 : decode cX11_isKept 103 = .ok (.ldc2_w 249, 3) := by decide +kernel
theorem eX11_isKept_106 : decode cX11_isKept 106 = .ok (.lcmp, 1) := by decide +kernel
theorem eX11_isKept_107 : decode cX11_isKept 107 = .ok (.ifCond .eq 27, 3) := by decide +kernel
theorem eX11_isKept_110 : decode cX11_isKept 110 = .ok (.lload_n 0, 1) := by decide +kernel
theorem eX11_isKept_111 : decode cX11_isKept 111 = .ok (.ldc2_w 251, 3) := by decide +kernel
theorem eX11_isKept_114 : decode cX11_isKept 114 = .ok (.lcmp, 1) := by decide +kernel
theorem eX11_isKept_115 : decode cX11_isKept 115 = .ok (.ifCond .eq 19, 3) := by decide +kernel
theorem eX11_isKept_118 : decode cX11_isKept 118 = .ok (.lload_n 0, 1) := by decide +kernel
theorem eX11_isKept_119 : decode cX11_isKept 119 = .ok (.ldc2_w 253, 3) := by decide +kernel
theorem eX11_isKept_122 : decode cX11_isKept 122 = .ok (.lcmp, 1) := by decide +kernel
theorem eX11_isKept_123 : decode cX11_isKept 123 = .ok (.ifCond .eq 11, 3) := by decide +kernel
theorem eX11_isKept_126 : decode cX11_isKept 126 = .ok (.lload_n 0, 1) := by decide +kernel
theorem eX11_isKept_127 : decode cX11_isKept 127 = .ok (.ldc2_w 255, 3) := by decide +kernel
theorem eX11_isKept_130 : decode cX11_isKept 130 = .ok (.lcmp, 1) := by decide +kernel
theorem eX11_isKept_131 : decode cX11_isKept 131 = .ok (.ifCond .ne 7, 3) := by decide +kernel
theorem eX11_isKept_134 : decode cX11_isKept 134 = .ok (.iconst 1, 1) := by decide +kernel
theorem eX11_isKept_135 : decode cX11_isKept 135 = .ok (.goto 4, 3) := by decide +kernel
theorem eX11_isKept_138 : decode cX11_isKept 138 = .ok (.iconst 0, 1) := by decide +kernel
theorem eX11_isKept_139 : decode cX11_isKept 139 = .ok (.istore_n 3, 1) := by decide +kernel
theorem eX11_isKept_140 : decode cX11_isKept 140 = .ok (.iload_n 2, 1) := by decide +kernel
theorem eX11_isKept_141 : decode cX11_isKept 141 = .ok (.ifCond .ne 71, 3) := by decide +kernel
theorem eX11_isKept_144 : decode cX11_isKept 144 = .ok (.iload_n 3, 1) := by decide +kernel
theorem eX11_isKept_145 : decode cX11_isKept 145 = .ok (.ifCond .ne 67, 3) := by decide +kernel
theorem eX11_isKept_148 : decode cX11_isKept 148 = .ok (.lload_n 0, 1) := by decide +kernel
theorem eX11_isKept_149 : decode cX11_isKept 149 = .ok (.ldc2_w 257, 3) := by decide +kernel
theorem eX11_isKept_152 : decode cX11_isKept 152 = .ok (.lcmp, 1) := by decide +kernel
theorem eX11_isKept_153 : decode cX11_isKept 153 = .ok (.ifCond .eq 59, 3) := by decide +kernel
theorem eX11_isKept_156 : decode cX11_isKept 156 = .ok (.lload_n 0, 1) := by decide +kernel
theorem eX11_isKept_157 : decode cX11_isKept 157 = .ok (.ldc2_w 259, 3) := by decide +kernel
theorem eX11_isKept_160 : decode cX11_isKept 160 = .ok (.lcmp, 1) := by decide +kernel
theorem eX11_isKept_161 : decode cX11_isKept 161 = .ok (.ifCond .eq 51, 3) := by decide +kernel
theorem eX11_isKept_164 : decode cX11_isKept 164 = .ok (.lload_n 0, 1) := by decide +kernel
theorem eX11_isKept_165 : decode cX11_isKept 165 = .ok (.ldc2_w 261, 3) := by decide +kernel
theorem eX11_isKept_168 : decode cX11_isKept 168 = .ok (.lcmp, 1) := by decide +kernel
theorem eX11_isKept_169 : decode cX11_isKept 169 = .ok (.ifCond .eq 43, 3) := by decide +kernel
theorem eX11_isKept_172 : decode cX11_isKept 172 = .ok (.lload_n 0, 1) := by decide +kernel
theorem eX11_isKept_173 : decode cX11_isKept 173 = .ok (.ldc2_w 263, 3) := by decide +kernel
theorem eX11_isKept_176 : decode cX11_isKept 176 = .ok (.lcmp, 1) := by decide +kernel
theorem eX11_isKept_177 : decode cX11_isKept 177 = .ok (.ifCond .eq 35, 3) := by decide +kernel
theorem eX11_isKept_180 : decode cX11_isKept 180 = .ok (.lload_n 0, 1) := by decide +kernel
theorem eX11_isKept_181 : decode cX11_isKept 181 = .ok (.ldc2_w 265, 3) := by decide +kernel
theorem eX11_isKept_184 : decode cX11_isKept 184 = .ok (.lcmp, 1) := by decide +kernel
theorem eX11_isKept_185 : decode cX11_isKept 185 = .ok (.ifCond .eq 27, 3) := by decide +kernel
theorem eX11_isKept_188 : decode cX11_isKept 188 = .ok (.lload_n 0, 1) := by decide +kernel
theorem eX11_isKept_189 : decode cX11_isKept 189 = .ok (.ldc2_w 267, 3) := by decide +kernel
theorem eX11_isKept_192 : decode cX11_isKept 192 = .ok (.lcmp, 1) := by decide +kernel
theorem eX11_isKept_193 : decode cX11_isKept 193 = .ok (.ifCond .eq 19, 3) := by decide +kernel
theorem eX11_isKept_196 : decode cX11_isKept 196 = .ok (.lload_n 0, 1) := by decide +kernel
theorem eX11_isKept_197 : decode cX11_isKept 197 = .ok (.ldc2_w 269, 3) := by decide +kernel
theorem eX11_isKept_200 : decode cX11_isKept 200 = .ok (.lcmp, 1) := by decide +kernel
theorem eX11_isKept_201 : decode cX11_isKept 201 = .ok (.ifCond .eq 11, 3) := by decide +kernel
theorem eX11_isKept_204 : decode cX11_isKept 204 = .ok (.lload_n 0, 1) := by decide +kernel
theorem eX11_isKept_205 : decode cX11_isKept 205 = .ok (.ldc2_w 271, 3) := by decide +kernel
theorem eX11_isKept_208 : decode cX11_isKept 208 = .ok (.lcmp, 1) := by decide +kernel
theorem eX11_isKept_209 : decode cX11_isKept 209 = .ok (.ifCond .ne 7, 3) := by decide +kernel
theorem eX11_isKept_212 : decode cX11_isKept 212 = .ok (.iconst 1, 1) := by decide +kernel
theorem eX11_isKept_213 : decode cX11_isKept 213 = .ok (.goto 4, 3) := by decide +kernel
theorem eX11_isKept_216 : decode cX11_isKept 216 = .ok (.iconst 0, 1) := by decide +kernel
theorem eX11_isKept_217 : decode cX11_isKept 217 = .ok (.ireturn, 1) := by decide +kernel
def C_X11_isKept (s : ST) (p : Int64) (Q : ST → Int → Prop) : Prop := bx <| RA s → q_met mX11_isKept (qs layM s) [.long p] (PB layM Q)
theorem C_X11_isKept.mono {s : ST} {p : Int64} {Q Q' : ST → Int → Prop} (h : C_X11_isKept s p Q) (hq : ∀ s v, Q s v → Q' s v) : C_X11_isKept s p Q' := ⟨fun hA => q_met.mono (h.1 hA) (fun _ _ => PB.mono hq), trivial⟩
def K_X11_isKept_139 (s : ST) (a0 : Int64) (a2 : Int) (t0 : Int) (Q : ST → Int → Prop) : Prop := bx <| RA s → R32 a2 → R32 t0 → q_K mX11_isKept (qs layM s) 0 0 139 [(0, .long a0), (2, .int (Int32.ofInt a2))] [.int (Int32.ofInt t0)] (q_fin mX11_isKept (PB layM Q))
def K_X11_isKept_134 (s : ST) (a0 : Int64) (a2 : Int) (Q : ST → Int → Prop) : Prop := bx <| RA s → R32 a2 → q_K mX11_isKept (qs layM s) 0 0 134 [(0, .long a0), (2, .int (Int32.ofInt a2))] [] (q_fin mX11_isKept (PB layM Q))
def K_X11_isKept_69 (s : ST) (a0 : Int64) (t0 : Int) (Q : ST → Int → Prop) : Prop := bx <| RA s → R32 t0 → q_K mX11_isKept (qs layM s) 0 0 69 [(0, .long a0)] [.int (Int32.ofInt t0)] (q_fin mX11_isKept (PB layM Q))
def K_X11_isKept_64 (s : ST) (a0 : Int64) (Q : ST → Int → Prop) : Prop := bx <| RA s → q_K mX11_isKept (qs layM s) 0 0 64 [(0, .long a0)] [] (q_fin mX11_isKept (PB layM Q))
set_option maxRecDepth 20000 in
theorem s_X11_isKept_139 {s : ST} {a0 : Int64} {a2 : Int} {t0 : Int} {Q : ST → Int → Prop} (h : RA s → R32 a2 → R32 t0 → ((¬ a2 = 0 → Q s 1) ∧ (a2 = 0 → ((¬ t0 = 0 → Q s 1) ∧ (t0 = 0 → ((a0 = 1818588019 → Q s 1) ∧ (¬ a0 = 1818588019 → ((a0 = 24947 → Q s 1) ∧ (¬ a0 = 24947 → ((a0 = 7239021 → Q s 1) ∧ (¬ a0 = 7239021 → ((a0 = 500136506472 → Q s 1) ∧ (¬ a0 = 500136506472 → ((a0 = 6385273 → Q s 1) ∧ (¬ a0 = 6385273 → ((a0 = 7499639 → Q s 1) ∧ (¬ a0 = 7499639 → ((a0 = 1651471464 → Q s 1) ∧ (¬ a0 = 1651471464 → ((¬ a0 = 1718775661 → Q s 0) ∧ (a0 = 1718775661 → Q s 1))))))))))))))))))))) : K_X11_isKept_139 s a0 a2 t0 Q := by
  refine ⟨?_, trivial⟩
  intro hA hra2 hrt0
  have h := h hA hra2 hrt0
  refine q_istore_n eX11_isKept_139 (Nat.le_of_ble_eq_true rfl) ?_
  refine q_iload_n eX11_isKept_140 rfl ?_
  refine q_iz_ne (tgt := 212) (a := a2) eX11_isKept_141 (by decide) (ofz hra2) (fun c141 => ?_) (fun c141 => ?_)
  · have h := h.1 c141
    refine q_ic (v := Int32.ofInt 1) eX11_isKept_212 rfl ?_
    refine q_goto (tgt := 217) eX11_isKept_213 (by decide) ?_
    exact q_zret eX11_isKept_217 rfl (z01 (Or.inr rfl)) ⟨_, _, rfl, hA, (Or.inr rfl), rfl, h⟩
  · have h := h.2 c141
    refine q_iload_n eX11_isKept_144 rfl ?_
    refine q_iz_ne (tgt := 212) (a := t0) eX11_isKept_145 (by decide) (ofz hrt0) (fun c145 => ?_) (fun c145 => ?_)
    · have h := h.1 c145
      refine q_ic (v := Int32.ofInt 1) eX11_isKept_212 rfl ?_
      refine q_goto (tgt := 217) eX11_isKept_213 (by decide) ?_
      exact q_zret eX11_isKept_217 rfl (z01 (Or.inr rfl)) ⟨_, _, rfl, hA, (Or.inr rfl), rfl, h⟩
    · have h := h.2 c145
      refine q_lload_n eX11_isKept_148 rfl ?_
      refine q_ldc2 (v := 1818588019) eX11_isKept_149 nX11_257 ?_
      refine q_lcmp eX11_isKept_152 ?_
      refine z_lc_eq (tgt := 212) eX11_isKept_153 (by decide) (fun c153 => ?_) (fun c153 => ?_)
      · have h := h.1 c153
        refine q_ic (v := Int32.ofInt 1) eX11_isKept_212 rfl ?_
        refine q_goto (tgt := 217) eX11_isKept_213 (by decide) ?_
        exact q_zret eX11_isKept_217 rfl (z01 (Or.inr rfl)) ⟨_, _, rfl, hA, (Or.inr rfl), rfl, h⟩
      · have h := h.2 c153
        refine q_lload_n eX11_isKept_156 rfl ?_
        refine q_ldc2 (v := 24947) eX11_isKept_157 nX11_259 ?_
        refine q_lcmp eX11_isKept_160 ?_
        refine z_lc_eq (tgt := 212) eX11_isKept_161 (by decide) (fun c161 => ?_) (fun c161 => ?_)
        · have h := h.1 c161
          refine q_ic (v := Int32.ofInt 1) eX11_isKept_212 rfl ?_
          refine q_goto (tgt := 217) eX11_isKept_213 (by decide) ?_
          exact q_zret eX11_isKept_217 rfl (z01 (Or.inr rfl)) ⟨_, _, rfl, hA, (Or.inr rfl), rfl, h⟩
        · have h := h.2 c161
          refine q_lload_n eX11_isKept_164 rfl ?_
          refine q_ldc2 (v := 7239021) eX11_isKept_165 nX11_261 ?_
          refine q_lcmp eX11_isKept_168 ?_
          refine z_lc_eq (tgt := 212) eX11_isKept_169 (by decide) (fun c169 => ?_) (fun c169 => ?_)
          · have h := h.1 c169
            refine q_ic (v := Int32.ofInt 1) eX11_isKept_212 rfl ?_
            refine q_goto (tgt := 217) eX11_isKept_213 (by decide) ?_
            exact q_zret eX11_isKept_217 rfl (z01 (Or.inr rfl)) ⟨_, _, rfl, hA, (Or.inr rfl), rfl, h⟩
          · have h := h.2 c169
            refine q_lload_n eX11_isKept_172 rfl ?_
            refine q_ldc2 (v := 500136506472) eX11_isKept_173 nX11_263 ?_
            refine q_lcmp eX11_isKept_176 ?_
            refine z_lc_eq (tgt := 212) eX11_isKept_177 (by decide) (fun c177 => ?_) (fun c177 => ?_)
            · have h := h.1 c177
              refine q_ic (v := Int32.ofInt 1) eX11_isKept_212 rfl ?_
              refine q_goto (tgt := 217) eX11_isKept_213 (by decide) ?_
              exact q_zret eX11_isKept_217 rfl (z01 (Or.inr rfl)) ⟨_, _, rfl, hA, (Or.inr rfl), rfl, h⟩
            · have h := h.2 c177
              refine q_lload_n eX11_isKept_180 rfl ?_
              refine q_ldc2 (v := 6385273) eX11_isKept_181 nX11_265 ?_
              refine q_lcmp eX11_isKept_184 ?_
              refine z_lc_eq (tgt := 212) eX11_isKept_185 (by decide) (fun c185 => ?_) (fun c185 => ?_)
              · have h := h.1 c185
                refine q_ic (v := Int32.ofInt 1) eX11_isKept_212 rfl ?_
                refine q_goto (tgt := 217) eX11_isKept_213 (by decide) ?_
                exact q_zret eX11_isKept_217 rfl (z01 (Or.inr rfl)) ⟨_, _, rfl, hA, (Or.inr rfl), rfl, h⟩
              · have h := h.2 c185
                refine q_lload_n eX11_isKept_188 rfl ?_
                refine q_ldc2 (v := 7499639) eX11_isKept_189 nX11_267 ?_
                refine q_lcmp eX11_isKept_192 ?_
                refine z_lc_eq (tgt := 212) eX11_isKept_193 (by decide) (fun c193 => ?_) (fun c193 => ?_)
                · have h := h.1 c193
                  refine q_ic (v := Int32.ofInt 1) eX11_isKept_212 rfl ?_
                  refine q_goto (tgt := 217) eX11_isKept_213 (by decide) ?_
                  exact q_zret eX11_isKept_217 rfl (z01 (Or.inr rfl)) ⟨_, _, rfl, hA, (Or.inr rfl), rfl, h⟩
                · have h := h.2 c193
                  refine q_lload_n eX11_isKept_196 rfl ?_
                  refine q_ldc2 (v := 1651471464) eX11_isKept_197 nX11_269 ?_
                  refine q_lcmp eX11_isKept_200 ?_
                  refine z_lc_eq (tgt := 212) eX11_isKept_201 (by decide) (fun c201 => ?_) (fun c201 => ?_)
                  · have h := h.1 c201
                    refine q_ic (v := Int32.ofInt 1) eX11_isKept_212 rfl ?_
                    refine q_goto (tgt := 217) eX11_isKept_213 (by decide) ?_
                    exact q_zret eX11_isKept_217 rfl (z01 (Or.inr rfl)) ⟨_, _, rfl, hA, (Or.inr rfl), rfl, h⟩
                  · have h := h.2 c201
                    refine q_lload_n eX11_isKept_204 rfl ?_
                    refine q_ldc2 (v := 1718775661) eX11_isKept_205 nX11_271 ?_
                    refine q_lcmp eX11_isKept_208 ?_
                    refine z_lc_ne (tgt := 216) eX11_isKept_209 (by decide) (fun c209 => ?_) (fun c209 => ?_)
                    · have h := h.1 c209
                      refine q_ic (v := Int32.ofInt 0) eX11_isKept_216 rfl ?_
                      exact q_zret eX11_isKept_217 rfl (z01 (Or.inl rfl)) ⟨_, _, rfl, hA, (Or.inl rfl), rfl, h⟩
                    · have h := h.2 c209
                      refine q_ic (v := Int32.ofInt 1) eX11_isKept_212 rfl ?_
                      refine q_goto (tgt := 217) eX11_isKept_213 (by decide) ?_
                      exact q_zret eX11_isKept_217 rfl (z01 (Or.inr rfl)) ⟨_, _, rfl, hA, (Or.inr rfl), rfl, h⟩
set_option maxRecDepth 20000 in
theorem s_X11_isKept_134 {s : ST} {a0 : Int64} {a2 : Int} {Q : ST → Int → Prop} (h : RA s → R32 a2 → K_X11_isKept_139 s a0 a2 1 Q) : K_X11_isKept_134 s a0 a2 Q := by
  refine ⟨?_, trivial⟩
  intro hA hra2
  have h := h hA hra2
  refine q_ic (v := Int32.ofInt 1) eX11_isKept_134 rfl ?_
  refine q_goto (tgt := 139) eX11_isKept_135 (by decide) ?_
  exact q_subL rfl (h.1 hA hra2 (r32l rfl))
set_option maxRecDepth 20000 in
theorem s_X11_isKept_69 {s : ST} {a0 : Int64} {t0 : Int} {Q : ST → Int → Prop} (h : RA s → R32 t0 → ((a0 = 1885432178 → K_X11_isKept_134 s a0 t0 Q) ∧ (¬ a0 = 1885432178 → ((a0 = 439855772532 → K_X11_isKept_134 s a0 t0 Q) ∧ (¬ a0 = 439855772532 → ((a0 = 126879297138276 → K_X11_isKept_134 s a0 t0 Q) ∧ (¬ a0 = 126879297138276 → ((a0 = 7235948 → K_X11_isKept_134 s a0 t0 Q) ∧ (¬ a0 = 7235948 → ((a0 = 1668247155 → K_X11_isKept_134 s a0 t0 Q) ∧ (¬ a0 = 1668247155 → ((a0 = 1751474532 → K_X11_isKept_134 s a0 t0 Q) ∧ (¬ a0 = 1751474532 → ((a0 = 1952541036 → K_X11_isKept_134 s a0 t0 Q) ∧ (¬ a0 = 1952541036 → ((¬ a0 = 6382692 → K_X11_isKept_139 s a0 t0 0 Q) ∧ (a0 = 6382692 → K_X11_isKept_134 s a0 t0 Q))))))))))))))))) : K_X11_isKept_69 s a0 t0 Q := by
  refine ⟨?_, trivial⟩
  intro hA hrt0
  have h := h hA hrt0
  refine q_istore_n eX11_isKept_69 (Nat.le_of_ble_eq_true rfl) ?_
  refine q_lload_n eX11_isKept_70 rfl ?_
  refine q_ldc2 (v := 1885432178) eX11_isKept_71 nX11_241 ?_
  refine q_lcmp eX11_isKept_74 ?_
  refine z_lc_eq (tgt := 134) eX11_isKept_75 (by decide) (fun c75 => ?_) (fun c75 => ?_)
  · have h := h.1 c75
    exact q_subL rfl (h.1 hA hrt0)
  · have h := h.2 c75
    refine q_lload_n eX11_isKept_78 rfl ?_
    refine q_ldc2 (v := 439855772532) eX11_isKept_79 nX11_243 ?_
    refine q_lcmp eX11_isKept_82 ?_
    refine z_lc_eq (tgt := 134) eX11_isKept_83 (by decide) (fun c83 => ?_) (fun c83 => ?_)
    · have h := h.1 c83
      exact q_subL rfl (h.1 hA hrt0)
    · have h := h.2 c83
      refine q_lload_n eX11_isKept_86 rfl ?_
      refine q_ldc2 (v := 126879297138276) eX11_isKept_87 nX11_245 ?_
      refine q_lcmp eX11_isKept_90 ?_
      refine z_lc_eq (tgt := 134) eX11_isKept_91 (by decide) (fun c91 => ?_) (fun c91 => ?_)
      · have h := h.1 c91
        exact q_subL rfl (h.1 hA hrt0)
      · have h := h.2 c91
        refine q_lload_n eX11_isKept_94 rfl ?_
        refine q_ldc2 (v := 7235948) eX11_isKept_95 nX11_247 ?_
        refine q_lcmp eX11_isKept_98 ?_
        refine z_lc_eq (tgt := 134) eX11_isKept_99 (by decide) (fun c99 => ?_) (fun c99 => ?_)
        · have h := h.1 c99
          exact q_subL rfl (h.1 hA hrt0)
        · have h := h.2 c99
          refine q_lload_n eX11_isKept_102 rfl ?_
          refine q_ldc2 (v := 1668247155) eX11_isKept_103 nX11_249 ?_
          refine q_lcmp eX11_isKept_106 ?_
          refine z_lc_eq (tgt := 134) eX11_isKept_107 (by decide) (fun c107 => ?_) (fun c107 => ?_)
          · have h := h.1 c107
            exact q_subL rfl (h.1 hA hrt0)
          · have h := h.2 c107
            refine q_lload_n eX11_isKept_110 rfl ?_
            refine q_ldc2 (v := 1751474532) eX11_isKept_111 nX11_251 ?_
            refine q_lcmp eX11_isKept_114 ?_
            refine z_lc_eq (tgt := 134) eX11_isKept_115 (by decide) (fun c115 => ?_) (fun c115 => ?_)
            · have h := h.1 c115
              exact q_subL rfl (h.1 hA hrt0)
            · have h := h.2 c115
              refine q_lload_n eX11_isKept_118 rfl ?_
              refine q_ldc2 (v := 1952541036) eX11_isKept_119 nX11_253 ?_
              refine q_lcmp eX11_isKept_122 ?_
              refine z_lc_eq (tgt := 134) eX11_isKept_123 (by decide) (fun c123 => ?_) (fun c123 => ?_)
              · have h := h.1 c123
                exact q_subL rfl (h.1 hA hrt0)
              · have h := h.2 c123
                refine q_lload_n eX11_isKept_126 rfl ?_
                refine q_ldc2 (v := 6382692) eX11_isKept_127 nX11_255 ?_
                refine q_lcmp eX11_isKept_130 ?_
                refine z_lc_ne (tgt := 138) eX11_isKept_131 (by decide) (fun c131 => ?_) (fun c131 => ?_)
                · have h := h.1 c131
                  refine q_ic (v := Int32.ofInt 0) eX11_isKept_138 rfl ?_
                  exact q_subL rfl (h.1 hA hrt0 (r32l rfl))
                · have h := h.2 c131
                  exact q_subL rfl (h.1 hA hrt0)
set_option maxRecDepth 20000 in
theorem s_X11_isKept_64 {s : ST} {a0 : Int64} {Q : ST → Int → Prop} (h : RA s → K_X11_isKept_69 s a0 1 Q) : K_X11_isKept_64 s a0 Q := by
  refine ⟨?_, trivial⟩
  intro hA
  have h := h hA
  refine q_ic (v := Int32.ofInt 1) eX11_isKept_64 rfl ?_
  refine q_goto (tgt := 69) eX11_isKept_65 (by decide) ?_
  exact q_subL rfl (h.1 hA (r32l rfl))
set_option maxRecDepth 20000 in
theorem s_X11_isKept {s : ST} {p : Int64} {Q : ST → Int → Prop} (h : RA s → ((p = 6579558 → K_X11_isKept_64 s p Q) ∧ (¬ p = 6579558 → ((p = 7955827 → K_X11_isKept_64 s p Q) ∧ (¬ p = 7955827 → ((p = 28271 → K_X11_isKept_64 s p Q) ∧ (¬ p = 28271 → ((p = 6714734 → K_X11_isKept_64 s p Q) ∧ (¬ p = 6714734 → ((p = 7103860 → K_X11_isKept_64 s p Q) ∧ (¬ p = 7103860 → ((p = 26990 → K_X11_isKept_64 s p Q) ∧ (¬ p = 26990 → ((p = 26982 → K_X11_isKept_64 s p Q) ∧ (¬ p = 26982 → ((¬ p = 1667329132 → K_X11_isKept_69 s p 0 Q) ∧ (p = 1667329132 → K_X11_isKept_64 s p Q))))))))))))))))) : C_X11_isKept s p Q := by
  refine ⟨?_, trivial⟩
  intro hA
  have h := h hA
  refine q_enter (by decide) (Nat.le_of_ble_eq_true rfl) ?_
  refine q_lload_n eX11_isKept_0 rfl ?_
  refine q_ldc2 (v := 6579558) eX11_isKept_1 nX11_225 ?_
  refine q_lcmp eX11_isKept_4 ?_
  refine z_lc_eq (tgt := 64) eX11_isKept_5 (by decide) (fun c5 => ?_) (fun c5 => ?_)
  · have h := h.1 c5
    exact q_subL rfl (h.1 hA)
  · have h := h.2 c5
    refine q_lload_n eX11_isKept_8 rfl ?_
    refine q_ldc2 (v := 7955827) eX11_isKept_9 nX11_227 ?_
    refine q_lcmp eX11_isKept_12 ?_
    refine z_lc_eq (tgt := 64) eX11_isKept_13 (by decide) (fun c13 => ?_) (fun c13 => ?_)
    · have h := h.1 c13
      exact q_subL rfl (h.1 hA)
    · have h := h.2 c13
      refine q_lload_n eX11_isKept_16 rfl ?_
      refine q_ldc2 (v := 28271) eX11_isKept_17 nX11_229 ?_
      refine q_lcmp eX11_isKept_20 ?_
      refine z_lc_eq (tgt := 64) eX11_isKept_21 (by decide) (fun c21 => ?_) (fun c21 => ?_)
      · have h := h.1 c21
        exact q_subL rfl (h.1 hA)
      · have h := h.2 c21
        refine q_lload_n eX11_isKept_24 rfl ?_
        refine q_ldc2 (v := 6714734) eX11_isKept_25 nX11_231 ?_
        refine q_lcmp eX11_isKept_28 ?_
        refine z_lc_eq (tgt := 64) eX11_isKept_29 (by decide) (fun c29 => ?_) (fun c29 => ?_)
        · have h := h.1 c29
          exact q_subL rfl (h.1 hA)
        · have h := h.2 c29
          refine q_lload_n eX11_isKept_32 rfl ?_
          refine q_ldc2 (v := 7103860) eX11_isKept_33 nX11_233 ?_
          refine q_lcmp eX11_isKept_36 ?_
          refine z_lc_eq (tgt := 64) eX11_isKept_37 (by decide) (fun c37 => ?_) (fun c37 => ?_)
          · have h := h.1 c37
            exact q_subL rfl (h.1 hA)
          · have h := h.2 c37
            refine q_lload_n eX11_isKept_40 rfl ?_
            refine q_ldc2 (v := 26990) eX11_isKept_41 nX11_235 ?_
            refine q_lcmp eX11_isKept_44 ?_
            refine z_lc_eq (tgt := 64) eX11_isKept_45 (by decide) (fun c45 => ?_) (fun c45 => ?_)
            · have h := h.1 c45
              exact q_subL rfl (h.1 hA)
            · have h := h.2 c45
              refine q_lload_n eX11_isKept_48 rfl ?_
              refine q_ldc2 (v := 26982) eX11_isKept_49 nX11_237 ?_
              refine q_lcmp eX11_isKept_52 ?_
              refine z_lc_eq (tgt := 64) eX11_isKept_53 (by decide) (fun c53 => ?_) (fun c53 => ?_)
              · have h := h.1 c53
                exact q_subL rfl (h.1 hA)
              · have h := h.2 c53
                refine q_lload_n eX11_isKept_56 rfl ?_
                refine q_ldc2 (v := 1667329132) eX11_isKept_57 nX11_239 ?_
                refine q_lcmp eX11_isKept_60 ?_
                refine z_lc_ne (tgt := 68) eX11_isKept_61 (by decide) (fun c61 => ?_) (fun c61 => ?_)
                · have h := h.1 c61
                  refine q_ic (v := Int32.ofInt 0) eX11_isKept_68 rfl ?_
                  exact q_subL rfl (h.1 hA (r32l rfl))
                · have h := h.2 c61
                  exact q_subL rfl (h.1 hA)
theorem eX11_goOn_0 : decode cX11_goOn 0 = .ok (.aload_n 0, 1) := by decide +kernel
theorem eX11_goOn_1 : decode cX11_goOn 1 = .ok (.aload_n 0, 1) := by decide +kernel
theorem eX11_goOn_2 : decode cX11_goOn 2 = .ok (.getfield 273, 3) := by decide +kernel
theorem eX11_goOn_5 : decode cX11_goOn 5 = .ok (.putfield 276, 3) := by decide +kernel
theorem eX11_goOn_8 : decode cX11_goOn 8 = .ok (.aload_n 0, 1) := by decide +kernel
theorem eX11_goOn_9 : decode cX11_goOn 9 = .ok (.getfield 276, 3) := by decide +kernel
theorem eX11_goOn_12 : decode cX11_goOn 12 = .ok (.aload_n 0, 1) := by decide +kernel
theorem eX11_goOn_13 : decode cX11_goOn 13 = .ok (.getfield 219, 3) := by decide +kernel
theorem eX11_goOn_16 : decode cX11_goOn 16 = .ok (.if_icmp .ge 42, 3) := by decide +kernel
theorem eX11_goOn_19 : decode cX11_goOn 19 = .ok (.aload_n 0, 1) := by decide +kernel
theorem eX11_goOn_20 : decode cX11_goOn 20 = .ok (.aload_n 0, 1) := by decide +kernel
theorem eX11_goOn_21 : decode cX11_goOn 21 = .ok (.getfield 276, 3) := by decide +kernel
theorem eX11_goOn_24 : decode cX11_goOn 24 = .ok (.invokevirtual 279, 3) := by decide +kernel
theorem eX11_goOn_27 : decode cX11_goOn 27 = .ok (.bipush 32, 2) := by decide +kernel
theorem eX11_goOn_29 : decode cX11_goOn 29 = .ok (.if_icmp .eq 16, 3) := by decide +kernel
theorem eX11_goOn_32 : decode cX11_goOn 32 = .ok (.aload_n 0, 1) := by decide +kernel
theorem eX11_goOn_33 : decode cX11_goOn 33 = .ok (.aload_n 0, 1) := by decide +kernel
theorem eX11_goOn_34 : decode cX11_goOn 34 = .ok (.getfield 276, 3) := by decide +kernel
theorem eX11_goOn_37 : decode cX11_goOn 37 = .ok (.invokevirtual 279, 3) := by decide +kernel
theorem eX11_goOn_40 : decode cX11_goOn 40 = .ok (.bipush 10, 2) := by decide +kernel
theorem eX11_goOn_42 : decode cX11_goOn 42 = .ok (.if_icmp .ne 16, 3) := by decide +kernel
theorem eX11_goOn_45 : decode cX11_goOn 45 = .ok (.aload_n 0, 1) := by decide +kernel
theorem eX11_goOn_46 : decode cX11_goOn 46 = .ok (.dup, 1) := by decide +kernel
theorem eX11_goOn_47 : decode cX11_goOn 47 = .ok (.getfield 276, 3) := by decide +kernel
theorem eX11_goOn_50 : decode cX11_goOn 50 = .ok (.iconst 1, 1) := by decide +kernel
theorem eX11_goOn_51 : decode cX11_goOn 51 = .ok (.iadd, 1) := by decide +kernel
theorem eX11_goOn_52 : decode cX11_goOn 52 = .ok (.putfield 276, 3) := by decide +kernel
theorem eX11_goOn_55 : decode cX11_goOn 55 = .ok (.goto (-47), 3) := by decide +kernel
theorem eX11_goOn_58 : decode cX11_goOn 58 = .ok (.aload_n 0, 1) := by decide +kernel
theorem eX11_goOn_59 : decode cX11_goOn 59 = .ok (.aload_n 0, 1) := by decide +kernel
theorem eX11_goOn_60 : decode cX11_goOn 60 = .ok (.getfield 276, 3) := by decide +kernel
theorem eX11_goOn_63 : decode cX11_goOn 63 = .ok (.invokevirtual 279, 3) := by decide +kernel
theorem eX11_goOn_66 : decode cX11_goOn 66 = .ok (.istore_n 1, 1) := by decide +kernel
theorem eX11_goOn_67 : decode cX11_goOn 67 = .ok (.aload_n 0, 1) := by decide +kernel
theorem eX11_goOn_68 : decode cX11_goOn 68 = .ok (.aload_n 0, 1) := by decide +kernel
theorem eX11_goOn_69 : decode cX11_goOn 69 = .ok (.getfield 276, 3) := by decide +kernel
theorem eX11_goOn_72 : decode cX11_goOn 72 = .ok (.iconst 1, 1) := by decide +kernel
theorem eX11_goOn_73 : decode cX11_goOn 73 = .ok (.iadd, 1) := by decide +kernel
theorem eX11_goOn_74 : decode cX11_goOn 74 = .ok (.putfield 273, 3) := by decide +kernel
theorem eX11_goOn_77 : decode cX11_goOn 77 = .ok (.aload_n 0, 1) := by decide +kernel
theorem eX11_goOn_78 : decode cX11_goOn 78 = .ok (.getfield 276, 3) := by decide +kernel
theorem eX11_goOn_81 : decode cX11_goOn 81 = .ok (.aload_n 0, 1) := by decide +kernel
theorem eX11_goOn_82 : decode cX11_goOn 82 = .ok (.getfield 219, 3) := by decide +kernel
theorem eX11_goOn_85 : decode cX11_goOn 85 = .ok (.if_icmp .lt 27, 3) := by decide +kernel
theorem eX11_goOn_88 : decode cX11_goOn 88 = .ok (.aload_n 0, 1) := by decide +kernel
theorem eX11_goOn_89 : decode cX11_goOn 89 = .ok (.iconst 0, 1) := by decide +kernel
theorem eX11_goOn_90 : decode cX11_goOn 90 = .ok (.putfield 283, 3) := by decide +kernel
theorem eX11_goOn_93 : decode cX11_goOn 93 = .ok (.aload_n 0, 1) := by decide +kernel
theorem eX11_goOn_94 : decode cX11_goOn 94 = .ok (.aload_n 0, 1) := by decide +kernel
theorem eX11_goOn_95 : decode cX11_goOn 95 = .ok (.getfield 219, 3) := by decide +kernel
theorem eX11_goOn_98 : decode cX11_goOn 98 = .ok (.putfield 276, 3) := by decide +kernel
theorem eX11_goOn_101 : decode cX11_goOn 101 = .ok (.aload_n 0, 1) := by decide +kernel
theorem eX11_goOn_102 : decode cX11_goOn 102 = .ok (.aload_n 0, 1) := by decide +kernel
theorem eX11_goOn_103 : decode cX11_goOn 103 = .ok (.getfield 219, 3) := by decide +kernel
theorem eX11_goOn_106 : decode cX11_goOn 106 = .ok (.putfield 273, 3) := by decide +kernel
theorem eX11_goOn_109 : decode cX11_goOn 109 = .ok (.goto 267, 3) := by decide +kernel
theorem eX11_goOn_112 : decode cX11_goOn 112 = .ok (.iload_n 1, 1) := by decide +kernel
theorem eX11_goOn_113 : decode cX11_goOn 113 = .ok (.invokestatic 286, 3) := by decide +kernel
theorem eX11_goOn_116 : decode cX11_goOn 116 = .ok (.ifCond .eq 123, 3) := by decide +kernel
theorem eX11_goOn_119 : decode cX11_goOn 119 = .ok (.aload_n 0, 1) := by decide +kernel
theorem eX11_goOn_120 : decode cX11_goOn 120 = .ok (.aload_n 0, 1) := by decide +kernel
theorem eX11_goOn_121 : decode cX11_goOn 121 = .ok (.getfield 273, 3) := by decide +kernel
theorem eX11_goOn_124 : decode cX11_goOn 124 = .ok (.invokevirtual 279, 3) := by decide +kernel
theorem eX11_goOn_127 : decode cX11_goOn 127 = .ok (.invokestatic 286, 3) := by decide +kernel
theorem eX11_goOn_130 : decode cX11_goOn 130 = .ok (.ifCond .eq 16, 3) := by decide +kernel
theorem eX11_goOn_133 : decode cX11_goOn 133 = .ok (.aload_n 0, 1) := by decide +kernel
theorem eX11_goOn_134 : decode cX11_goOn 134 = .ok (.dup, 1) := by decide +kernel
theorem eX11_goOn_135 : decode cX11_goOn 135 = .ok (.getfield 273, 3) := by decide +kernel
theorem eX11_goOn_138 : decode cX11_goOn 138 = .ok (.iconst 1, 1) := by decide +kernel
theorem eX11_goOn_139 : decode cX11_goOn 139 = .ok (.iadd, 1) := by decide +kernel
theorem eX11_goOn_140 : decode cX11_goOn 140 = .ok (.putfield 273, 3) := by decide +kernel
theorem eX11_goOn_143 : decode cX11_goOn 143 = .ok (.goto (-24), 3) := by decide +kernel
theorem eX11_goOn_146 : decode cX11_goOn 146 = .ok (.aload_n 0, 1) := by decide +kernel
theorem eX11_goOn_147 : decode cX11_goOn 147 = .ok (.lconst 0, 1) := by decide +kernel
theorem eX11_goOn_148 : decode cX11_goOn 148 = .ok (.putfield 290, 3) := by decide +kernel
theorem eX11_goOn_151 : decode cX11_goOn 151 = .ok (.aload_n 0, 1) := by decide +kernel
theorem eX11_goOn_152 : decode cX11_goOn 152 = .ok (.getfield 276, 3) := by decide +kernel
theorem eX11_goOn_155 : decode cX11_goOn 155 = .ok (.istore_n 2, 1) := by decide +kernel
theorem eX11_goOn_156 : decode cX11_goOn 156 = .ok (.iload_n 2, 1) := by decide +kernel
theorem eX11_goOn_157 : decode cX11_goOn 157 = .ok (.aload_n 0, 1) := by decide +kernel
theorem eX11_goOn_158 : decode cX11_goOn 158 = .ok (.getfield 273, 3) := by decide +kernel
theorem eX11_goOn_161 : decode cX11_goOn 161 = .ok (.if_icmp .ge 38, 3) := by decide +kernel
theorem eX11_goOn_164 : decode cX11_goOn 164 = .ok (.iload_n 2, 1) := by decide +kernel
theorem eX11_goOn_165 : decode cX11_goOn 165 = .ok (.aload_n 0, 1) := by decide +kernel
theorem eX11_goOn_166 : decode cX11_goOn 166 = .ok (.getfield 276, 3) := by decide +kernel
theorem eX11_goOn_169 : decode cX11_goOn 169 = .ok (.bipush 8, 2) := by decide +kernel
theorem eX11_goOn_171 : decode cX11_goOn 171 = .ok (.iadd, 1) := by decide +kernel
theorem eX11_goOn_172 : decode cX11_goOn 172 = .ok (.if_icmp .ge 27, 3) := by decide +kernel
theorem eX11_goOn_175 : decode cX11_goOn 175 = .ok (.aload_n 0, 1) := by decide +kernel
theorem eX11_goOn_176 : decode cX11_goOn 176 = .ok (.aload_n 0, 1) := by decide +kernel
theorem eX11_goOn_177 : decode cX11_goOn 177 = .ok (.getfield 290, 3) := by decide +kernel
theorem eX11_goOn_180 : decode cX11_goOn 180 = .ok (.bipush 8, 2) := by decide +kernel
theorem eX11_goOn_182 : decode cX11_goOn 182 = .ok (.lshl, 1) := by decide +kernel
theorem eX11_goOn_183 : decode cX11_goOn 183 = .ok (.aload_n 0, 1) := by decide +kernel
theorem eX11_goOn_184 : decode cX11_goOn 184 = .ok (.iload_n 2, 1) := by decide +kernel
theorem eX11_goOn_185 : decode cX11_goOn 185 = .ok (.invokevirtual 279, 3) := by decide +kernel
theorem eX11_goOn_188 : decode cX11_goOn 188 = .ok (.i2l, 1) := by decide +kernel
theorem eX11_goOn_189 : decode cX11_goOn 189 = .ok (.lor, 1) := by decide +kernel
theorem eX11_goOn_190 : decode cX11_goOn 190 = .ok (.putfield 290, 3) := by decide +kernel
theorem eX11_goOn_193 : decode cX11_goOn 193 = .ok (.iinc 2 1, 3) := by decide +kernel
theorem eX11_goOn_196 : decode cX11_goOn 196 = .ok (.goto (-40), 3) := by decide +kernel
theorem eX11_goOn_199 : decode cX11_goOn 199 = .ok (.aload_n 0, 1) := by decide +kernel
theorem eX11_goOn_200 : decode cX11_goOn 200 = .ok (.aload_n 0, 1) := by decide +kernel
theorem eX11_goOn_201 : decode cX11_goOn 201 = .ok (.getfield 273, 3) := by decide +kernel
theorem eX11_goOn_204 : decode cX11_goOn 204 = .ok (.aload_n 0, 1) := by decide +kernel
theorem eX11_goOn_205 : decode cX11_goOn 205 = .ok (.getfield 276, 3) := by decide +kernel
theorem eX11_goOn_208 : decode cX11_goOn 208 = .ok (.isub, 1) := by decide +kernel
theorem eX11_goOn_209 : decode cX11_goOn 209 = .ok (.bipush 8, 2) := by decide +kernel
theorem eX11_goOn_211 : decode cX11_goOn 211 = .ok (.if_icmp .le 7, 3) := by decide +kernel
theorem eX11_goOn_214 : decode cX11_goOn 214 = .ok (.iconst 1, 1) := by decide +kernel
theorem eX11_goOn_215 : decode cX11_goOn 215 = .ok (.goto 18, 3) := by decide +kernel
theorem eX11_goOn_218 : decode cX11_goOn 218 = .ok (.aload_n 0, 1) := by decide +kernel
theorem eX11_goOn_219 : decode cX11_goOn 219 = .ok (.getfield 290, 3) := by decide +kernel
theorem eX11_goOn_222 : decode cX11_goOn 222 = .ok (.invokestatic 294, 3) := by decide +kernel
theorem eX11_goOn_225 : decode cX11_goOn 225 = .ok (.ifCond .eq 7, 3) := by decide +kernel
theorem eX11_goOn_228 : decode cX11_goOn 228 = .ok (.iconst 3, 1) := by decide +kernel
theorem eX11_goOn_229 : decode cX11_goOn 229 = .ok (.goto 4, 3) := by decide +kernel
theorem eX11_goOn_232 : decode cX11_goOn 232 = .ok (.iconst 2, 1) := by decide +kernel
theorem eX11_goOn_233 : decode cX11_goOn 233 = .ok (.putfield 283, 3) := by decide +kernel
theorem eX11_goOn_236 : decode cX11_goOn 236 = .ok (.goto 140, 3) := by decide +kernel
theorem eX11_goOn_239 : decode cX11_goOn 239 = .ok (.iload_n 1, 1) := by decide +kernel
theorem eX11_goOn_240 : decode cX11_goOn 240 = .ok (.invokestatic 298, 3) := by decide +kernel
theorem eX11_goOn_243 : decode cX11_goOn 243 = .ok (.ifCond .eq 118, 3) := by decide +kernel
theorem eX11_goOn_246 : decode cX11_goOn 246 = .ok (.aload_n 0, 1) := by decide +kernel
theorem eX11_goOn_247 : decode cX11_goOn 247 = .ok (.iconst 0, 1) := by decide +kernel
theorem eX11_goOn_248 : decode cX11_goOn 248 = .ok (.putfield 301, 3) := by decide +kernel
theorem eX11_goOn_251 : decode cX11_goOn 251 = .ok (.aload_n 0, 1) := by decide +kernel
theorem eX11_goOn_252 : decode cX11_goOn 252 = .ok (.aload_n 0, 1) := by decide +kernel
theorem eX11_goOn_253 : decode cX11_goOn 253 = .ok (.getfield 276, 3) := by decide +kernel
theorem eX11_goOn_256 : decode cX11_goOn 256 = .ok (.putfield 273, 3) := by decide +kernel
theorem eX11_goOn_259 : decode cX11_goOn 259 = .ok (.aload_n 0, 1) := by decide +kernel
theorem eX11_goOn_260 : decode cX11_goOn 260 = .ok (.aload_n 0, 1) := by decide +kernel
theorem eX11_goOn_261 : decode cX11_goOn 261 = .ok (.getfield 273, 3) := by decide +kernel
theorem eX11_goOn_264 : decode cX11_goOn 264 = .ok (.invokevirtual 279, 3) := by decide +kernel
theorem eX11_goOn_267 : decode cX11_goOn 267 = .ok (.invokestatic 298, 3) := by decide +kernel
theorem eX11_goOn_270 : decode cX11_goOn 270 = .ok (.ifCond .eq 52, 3) := by decide +kernel
theorem eX11_goOn_273 : decode cX11_goOn 273 = .ok (.aload_n 0, 1) := by decide +kernel
theorem eX11_goOn_274 : decode cX11_goOn 274 = .ok (.getfield 273, 3) := by decide +kernel
theorem eX11_goOn_277 : decode cX11_goOn 277 = .ok (.aload_n 0, 1) := by decide +kernel
theorem eX11_goOn_278 : decode cX11_goOn 278 = .ok (.getfield 276, 3) := by decide +kernel
theorem eX11_goOn_281 : decode cX11_goOn 281 = .ok (.isub, 1) := by decide +kernel
theorem eX11_goOn_282 : decode cX11_goOn 282 = .ok (.iconst 4, 1) := by decide +kernel
theorem eX11_goOn_283 : decode cX11_goOn 283 = .ok (.if_icmp .ge 26, 3) := by decide +kernel
theorem eX11_goOn_286 : decode cX11_goOn 286 = .ok (.aload_n 0, 1) := by decide +kernel
theorem eX11_goOn_287 : decode cX11_goOn 287 = .ok (.bipush 10, 2) := by decide +kernel
theorem eX11_goOn_289 : decode cX11_goOn 289 = .ok (.aload_n 0, 1) := by decide +kernel
theorem eX11_goOn_290 : decode cX11_goOn 290 = .ok (.getfield 301, 3) := by decide +kernel
theorem eX11_goOn_293 : decode cX11_goOn 293 = .ok (.imul, 1) := by decide +kernel
theorem eX11_goOn_294 : decode cX11_goOn 294 = .ok (.aload_n 0, 1) := by decide +kernel
theorem eX11_goOn_295 : decode cX11_goOn 295 = .ok (.aload_n 0, 1) := by decide +kernel
theorem eX11_goOn_296 : decode cX11_goOn 296 = .ok (.getfield 273, 3) := by decide +kernel
theorem eX11_goOn_299 : decode cX11_goOn 299 = .ok (.invokevirtual 279, 3) := by decide +kernel
theorem eX11_goOn_302 : decode cX11_goOn 302 = .ok (.iadd, 1) := by decide +kernel
theorem eX11_goOn_303 : decode cX11_goOn 303 = .ok (.bipush 48, 2) := by decide +kernel
theorem eX11_goOn_305 : decode cX11_goOn 305 = .ok (.isub, 1) := by decide +kernel
theorem eX11_goOn_306 : decode cX11_goOn 306 = .ok (.putfield 301, 3) := by decide +kernel
theorem eX11_goOn_309 : decode cX11_goOn 309 = .ok (.aload_n 0, 1) := by decide +kernel
theorem eX11_goOn_310 : decode cX11_goOn 310 = .ok (.dup, 1) := by decide +kernel
theorem eX11_goOn_311 : decode cX11_goOn 311 = .ok (.getfield 273, 3) := by decide +kernel
theorem eX11_goOn_314 : decode cX11_goOn 314 = .ok (.iconst 1, 1) := by decide +kernel
theorem eX11_goOn_315 : decode cX11_goOn 315 = .ok (.iadd, 1) := by decide +kernel
theorem eX11_goOn_316 : decode cX11_goOn 316 = .ok (.putfield 273, 3) := by decide +kernel
theorem eX11_goOn_319 : decode cX11_goOn 319 = .ok (.goto (-60), 3) := by decide +kernel
theorem eX11_goOn_322 : decode cX11_goOn 322 = .ok (.aload_n 0, 1) := by decide +kernel
theorem eX11_goOn_323 : decode cX11_goOn 323 = .ok (.aload_n 0, 1) := by decide +kernel
theorem eX11_goOn_324 : decode cX11_goOn 324 = .ok (.getfield 273, 3) := by decide +kernel
theorem eX11_goOn_327 : decode cX11_goOn 327 = .ok (.aload_n 0, 1) := by decide +kernel
theorem eX11_goOn_328 : decode cX11_goOn 328 = .ok (.getfield 276, 3) := by decide +kernel
theorem eX11_goOn_331 : decode cX11_goOn 331 = .ok (.isub, 1) := by decide +kernel
theorem eX11_goOn_332 : decode cX11_goOn 332 = .ok (.iconst 4, 1) := by decide +kernel
theorem eX11_goOn_333 : decode cX11_goOn 333 = .ok (.if_icmp .gt 17, 3) := by decide +kernel
theorem eX11_goOn_336 : decode cX11_goOn 336 = .ok (.aload_n 0, 1) := by decide +kernel
theorem eX11_goOn_337 : decode cX11_goOn 337 = .ok (.aload_n 0, 1) := by decide +kernel
theorem eX11_goOn_338 : decode cX11_goOn 338 = .ok (.getfield 273, 3) := by decide +kernel
theorem eX11_goOn_341 : decode cX11_goOn 341 = .ok (.invokevirtual 279, 3) := by decide +kernel
theorem eX11_goOn_344 : decode cX11_goOn 344 = .ok (.invokestatic 286, 3) := by decide +kernel
theorem eX11_goOn_347 : decode cX11_goOn 347 = .ok (.ifCond .eq 7, 3) := by decide +kernel
theorem eX11_goOn_350 : decode cX11_goOn 350 = .ok (.iconst 1, 1) := by decide +kernel
theorem eX11_goOn_351 : decode cX11_goOn 351 = .ok (.goto 4, 3) := by decide +kernel
theorem eX11_goOn_354 : decode cX11_goOn 354 = .ok (.iconst 4, 1) := by decide +kernel
theorem eX11_goOn_355 : decode cX11_goOn 355 = .ok (.putfield 283, 3) := by decide +kernel
theorem eX11_goOn_358 : decode cX11_goOn 358 = .ok (.goto 18, 3) := by decide +kernel
theorem eX11_goOn_361 : decode cX11_goOn 361 = .ok (.aload_n 0, 1) := by decide +kernel
theorem eX11_goOn_362 : decode cX11_goOn 362 = .ok (.iload_n 1, 1) := by decide +kernel
theorem eX11_goOn_363 : decode cX11_goOn 363 = .ok (.bipush 59, 2) := by decide +kernel
theorem eX11_goOn_365 : decode cX11_goOn 365 = .ok (.if_icmp .ne 7, 3) := by decide +kernel
theorem eX11_goOn_368 : decode cX11_goOn 368 = .ok (.iconst 5, 1) := by decide +kernel
theorem eX11_goOn_369 : decode cX11_goOn 369 = .ok (.goto 4, 3) := by decide +kernel
theorem eX11_goOn_372 : decode cX11_goOn 372 = .ok (.iconst 1, 1) := by decide +kernel
theorem eX11_goOn_373 : decode cX11_goOn 373 = .ok (.putfield 283, 3) := by decide +kernel
theorem eX11_goOn_376 : decode cX11_goOn 376 = .ok (.return_, 1) := by decide +kernel
def C_X11_goOn (s : ST) (Q : ST → Prop) : Prop := bx <| RA s → q_met mX11_goOn (qs layM s) [.ref 139] (PV layM Q)
theorem C_X11_goOn.mono {s : ST} {Q Q' : ST → Prop} (h : C_X11_goOn s Q) (hq : ∀ s, Q s → Q' s) : C_X11_goOn s Q' := ⟨fun hA => q_met.mono (h.1 hA) (fun _ _ => PV.mono hq), trivial⟩
def K_X11_goOn_259 (s : ST) (Q : ST → Prop) : Prop := bx <| RA s → q_K mX11_goOn (qs layM s) 0 0 259 [(0, .ref 139)] [] (q_fin mX11_goOn (PV layM Q))
def K_X11_goOn_199 (s : ST) (Q : ST → Prop) : Prop := bx <| RA s → q_K mX11_goOn (qs layM s) 0 0 199 [(0, .ref 139)] [] (q_fin mX11_goOn (PV layM Q))
def K_X11_goOn_156 (s : ST) (a2 : Int) (Q : ST → Prop) : Prop := bx <| RA s → R32 a2 → q_K mX11_goOn (qs layM s) 0 0 156 [(0, .ref 139), (2, .int (Int32.ofInt a2))] [] (q_fin mX11_goOn (PV layM Q))
def K_X11_goOn_119 (s : ST) (Q : ST → Prop) : Prop := bx <| RA s → q_K mX11_goOn (qs layM s) 0 0 119 [(0, .ref 139)] [] (q_fin mX11_goOn (PV layM Q))
def K_X11_goOn_58 (s : ST) (Q : ST → Prop) : Prop := bx <| RA s → q_K mX11_goOn (qs layM s) 0 0 58 [(0, .ref 139)] [] (q_fin mX11_goOn (PV layM Q))
def K_X11_goOn_8 (s : ST) (Q : ST → Prop) : Prop := bx <| RA s → q_K mX11_goOn (qs layM s) 0 0 8 [(0, .ref 139)] [] (q_fin mX11_goOn (PV layM Q))
set_option maxRecDepth 20000 in
theorem s_X11_goOn_259 {s : ST} {Q : ST → Prop} (h : RA s → (P_X11_sign s (s.1 139 7) ∧ ((¬ (¬ (F_X11_sign s (s.1 139 7)) < 48 ∧ ¬ 57 < (F_X11_sign s (s.1 139 7))) → (R32 (s.1 139 7 - s.1 139 6) ∧ ((4 < (s.1 139 7 - s.1 139 6) → Q (ui s 139 8 1)) ∧ (¬ 4 < (s.1 139 7 - s.1 139 6) → ((¬ (¬ (F_X11_sign s (s.1 139 7)) < 97 ∧ ¬ 122 < (F_X11_sign s (s.1 139 7))) → Q (ui s 139 8 4)) ∧ ((¬ (F_X11_sign s (s.1 139 7)) < 97 ∧ ¬ 122 < (F_X11_sign s (s.1 139 7))) → Q (ui s 139 8 1))))))) ∧ ((¬ (F_X11_sign s (s.1 139 7)) < 48 ∧ ¬ 57 < (F_X11_sign s (s.1 139 7))) → (R32 (s.1 139 7 - s.1 139 6) ∧ ((4 ≤ (s.1 139 7 - s.1 139 6) → (R32 (s.1 139 7 + 1) ∧ K_X11_goOn_259 (ui s 139 7 (s.1 139 7 + 1)) Q)) ∧ (¬ 4 ≤ (s.1 139 7 - s.1 139 6) → (R32 (10 * s.1 139 9) ∧ (R32 ((10 * s.1 139 9) + (F_X11_sign s (s.1 139 7))) ∧ (R32 (((10 * s.1 139 9) + (F_X11_sign s (s.1 139 7))) - 48) ∧ (R32 (s.1 139 7 + 1) ∧ K_X11_goOn_259 (ui (ui s 139 9 (((10 * s.1 139 9) + (F_X11_sign s (s.1 139 7))) - 48)) 139 7 (s.1 139 7 + 1)) Q))))))))))) : K_X11_goOn_259 s Q := by
  refine ⟨?_, trivial⟩
  intro hA
  have h := h hA
  refine q_aload_n eX11_goOn_259 rfl ?_
  refine q_aload_n eX11_goOn_260 rfl ?_
  refine q_getf (c := 11) (n := 0) (k := 7) (v := .int (Int32.ofInt (s.1 139 7))) eX11_goOn_261 rfl (by decide) (by decide) fX11_273 rfl ?_
  have f2 := h.1
  have h := h.2
  refine q_V1 (ci := 11) (n := 0) eX11_goOn_264 DX11_sign lX11_279 rfl (by decide) rfl rfl rfl rfl (p_X11_sign f2 hA (hA _ _)) ?_
  rintro _ _ ⟨r1, rfl, rfl⟩
  refine q_S1 eX11_goOn_267 DX11_isDigit lX11_298 rfl rfl rfl (p_X11_isDigit hA r1) ?_
  rintro _ _ ⟨b3, rfl, rfl⟩
  refine q_iz_eq (tgt := 322) (a := (F_X11_isDigit s (F_X11_sign s (s.1 139 7)))) eX11_goOn_270 (by decide) (ofz (r01 b3)) (fun c270 => ?_) (fun c270 => ?_)
  · have h := h.1 (fun q => n_X11_isDigit.mpr q c270)
    refine q_aload_n eX11_goOn_322 rfl ?_
    refine q_aload_n eX11_goOn_323 rfl ?_
    refine q_getf (c := 11) (n := 0) (k := 7) (v := .int (Int32.ofInt (s.1 139 7))) eX11_goOn_324 rfl (by decide) (by decide) fX11_273 rfl ?_
    refine q_aload_n eX11_goOn_327 rfl ?_
    refine q_getf (c := 11) (n := 0) (k := 6) (v := .int (Int32.ofInt (s.1 139 6))) eX11_goOn_328 rfl (by decide) (by decide) fX11_276 rfl ?_
    refine z_isub eX11_goOn_331 ?_
    have r4 := h.1
    have h := h.2
    refine q_ic (v := Int32.ofInt 4) eX11_goOn_332 rfl ?_
    refine q_cz_gt (tgt := 350) (a := (s.1 139 7 - s.1 139 6)) (b := 4) eX11_goOn_333 (by decide) (ofz r4) (ofz (r32l rfl)) (fun c333 => ?_) (fun c333 => ?_)
    · have h := h.1 c333
      refine q_ic (v := Int32.ofInt 1) eX11_goOn_350 rfl ?_
      refine q_goto (tgt := 355) eX11_goOn_351 (by decide) ?_
      refine z_putI (c := 11) (n := 0) (k := 8) (kz := 8) eX11_goOn_355 rfl (by decide) (by decide) fX11_283 rfl rfl rfl ?_
      refine q_goto (tgt := 376) eX11_goOn_358 (by decide) ?_
      exact q_ret eX11_goOn_376 rfl ⟨_, rfl, (ra_ui hA (r32l rfl)), rfl, h⟩
    · have h := h.2 c333
      refine q_aload_n eX11_goOn_336 rfl ?_
      refine q_aload_n eX11_goOn_337 rfl ?_
      refine q_getf (c := 11) (n := 0) (k := 7) (v := .int (Int32.ofInt (s.1 139 7))) eX11_goOn_338 rfl (by decide) (by decide) fX11_273 rfl ?_
      refine q_V1 (ci := 11) (n := 0) eX11_goOn_341 DX11_sign lX11_279 rfl (by decide) rfl rfl rfl rfl (p_X11_sign f2 hA (hA _ _)) ?_
      rintro _ _ ⟨r5, rfl, rfl⟩
      refine q_S1 eX11_goOn_344 DX11_isLetter lX11_286 rfl rfl rfl (p_X11_isLetter hA r5) ?_
      rintro _ _ ⟨b6, rfl, rfl⟩
      refine q_iz_eq (tgt := 354) (a := (F_X11_isLetter s (F_X11_sign s (s.1 139 7)))) eX11_goOn_347 (by decide) (ofz (r01 b6)) (fun c347 => ?_) (fun c347 => ?_)
      · have h := h.1 (fun q => n_X11_isLetter.mpr q c347)
        refine q_ic (v := Int32.ofInt 4) eX11_goOn_354 rfl ?_
        refine z_putI (c := 11) (n := 0) (k := 8) (kz := 8) eX11_goOn_355 rfl (by decide) (by decide) fX11_283 rfl rfl rfl ?_
        refine q_goto (tgt := 376) eX11_goOn_358 (by decide) ?_
        exact q_ret eX11_goOn_376 rfl ⟨_, rfl, (ra_ui hA (r32l rfl)), rfl, h⟩
      · have h := h.2 (n_X11_isLetter.mp c347)
        refine q_ic (v := Int32.ofInt 1) eX11_goOn_350 rfl ?_
        refine q_goto (tgt := 355) eX11_goOn_351 (by decide) ?_
        refine z_putI (c := 11) (n := 0) (k := 8) (kz := 8) eX11_goOn_355 rfl (by decide) (by decide) fX11_283 rfl rfl rfl ?_
        refine q_goto (tgt := 376) eX11_goOn_358 (by decide) ?_
        exact q_ret eX11_goOn_376 rfl ⟨_, rfl, (ra_ui hA (r32l rfl)), rfl, h⟩
  · have h := h.2 (n_X11_isDigit.mp c270)
    refine q_aload_n eX11_goOn_273 rfl ?_
    refine q_getf (c := 11) (n := 0) (k := 7) (v := .int (Int32.ofInt (s.1 139 7))) eX11_goOn_274 rfl (by decide) (by decide) fX11_273 rfl ?_
    refine q_aload_n eX11_goOn_277 rfl ?_
    refine q_getf (c := 11) (n := 0) (k := 6) (v := .int (Int32.ofInt (s.1 139 6))) eX11_goOn_278 rfl (by decide) (by decide) fX11_276 rfl ?_
    refine z_isub eX11_goOn_281 ?_
    have r7 := h.1
    have h := h.2
    refine q_ic (v := Int32.ofInt 4) eX11_goOn_282 rfl ?_
    refine q_cz_ge (tgt := 309) (a := (s.1 139 7 - s.1 139 6)) (b := 4) eX11_goOn_283 (by decide) (ofz r7) (ofz (r32l rfl)) (fun c283 => ?_) (fun c283 => ?_)
    · have h := h.1 c283
      refine q_aload_n eX11_goOn_309 rfl ?_
      refine q_dup eX11_goOn_310 rfl ?_
      refine q_getf (c := 11) (n := 0) (k := 7) (v := .int (Int32.ofInt (s.1 139 7))) eX11_goOn_311 rfl (by decide) (by decide) fX11_273 rfl ?_
      refine q_ic (v := Int32.ofInt 1) eX11_goOn_314 rfl ?_
      refine z_iadd eX11_goOn_315 ?_
      have r8 := h.1
      have h := h.2
      refine z_putI (c := 11) (n := 0) (k := 7) (kz := 7) eX11_goOn_316 rfl (by decide) (by decide) fX11_273 rfl rfl rfl ?_
      refine q_goto (tgt := 259) eX11_goOn_319 (by decide) ?_
      exact q_subL rfl (h.1 (ra_ui hA r8))
    · have h := h.2 c283
      refine q_aload_n eX11_goOn_286 rfl ?_
      refine q_bi (v := Int32.ofInt 10) eX11_goOn_287 rfl ?_
      refine q_aload_n eX11_goOn_289 rfl ?_
      refine q_getf (c := 11) (n := 0) (k := 9) (v := .int (Int32.ofInt (s.1 139 9))) eX11_goOn_290 rfl (by decide) (by decide) fX11_301 rfl ?_
      refine z_imul eX11_goOn_293 ?_
      have r9 := h.1
      have h := h.2
      refine q_aload_n eX11_goOn_294 rfl ?_
      refine q_aload_n eX11_goOn_295 rfl ?_
      refine q_getf (c := 11) (n := 0) (k := 7) (v := .int (Int32.ofInt (s.1 139 7))) eX11_goOn_296 rfl (by decide) (by decide) fX11_273 rfl ?_
      refine q_V1 (ci := 11) (n := 0) eX11_goOn_299 DX11_sign lX11_279 rfl (by decide) rfl rfl rfl rfl (p_X11_sign f2 hA (hA _ _)) ?_
      rintro _ _ ⟨r10, rfl, rfl⟩
      refine z_iadd eX11_goOn_302 ?_
      have r11 := h.1
      have h := h.2
      refine q_bi (v := Int32.ofInt 48) eX11_goOn_303 rfl ?_
      refine z_isub eX11_goOn_305 ?_
      have r12 := h.1
      have h := h.2
      refine z_putI (c := 11) (n := 0) (k := 9) (kz := 9) eX11_goOn_306 rfl (by decide) (by decide) fX11_301 rfl rfl rfl ?_
      refine q_aload_n eX11_goOn_309 rfl ?_
      refine q_dup eX11_goOn_310 rfl ?_
      refine q_getf (c := 11) (n := 0) (k := 7) (v := .int (Int32.ofInt (s.1 139 7))) eX11_goOn_311 rfl (by decide) (by decide) fX11_273 rfl ?_
      refine q_ic (v := Int32.ofInt 1) eX11_goOn_314 rfl ?_
      refine z_iadd eX11_goOn_315 ?_
      have r13 := h.1
      have h := h.2
      refine z_putI (c := 11) (n := 0) (k := 7) (kz := 7) eX11_goOn_316 rfl (by decide) (by decide) fX11_273 rfl rfl rfl ?_
      refine q_goto (tgt := 259) eX11_goOn_319 (by decide) ?_
      exact q_subL rfl (h.1 (ra_ui (ra_ui hA r12) r13))
set_option maxRecDepth 20000 in
theorem s_X11_goOn_199 {s : ST} {Q : ST → Prop} (h : RA s → (R32 (s.1 139 7 - s.1 139 6) ∧ (((s.1 139 7 - s.1 139 6) ≤ 8 → (C_X11_isKept s (s.2 139 10) (fun s2 v2 => (v2 = 0 ∨ v2 = 1) → ((v2 = 0 → Q (ui s2 139 8 2)) ∧ (¬ v2 = 0 → Q (ui s2 139 8 3)))))) ∧ (¬ (s.1 139 7 - s.1 139 6) ≤ 8 → Q (ui s 139 8 1))))) : K_X11_goOn_199 s Q := by
  refine ⟨?_, trivial⟩
  intro hA
  have h := h hA
  refine q_aload_n eX11_goOn_199 rfl ?_
  refine q_aload_n eX11_goOn_200 rfl ?_
  refine q_getf (c := 11) (n := 0) (k := 7) (v := .int (Int32.ofInt (s.1 139 7))) eX11_goOn_201 rfl (by decide) (by decide) fX11_273 rfl ?_
  refine q_aload_n eX11_goOn_204 rfl ?_
  refine q_getf (c := 11) (n := 0) (k := 6) (v := .int (Int32.ofInt (s.1 139 6))) eX11_goOn_205 rfl (by decide) (by decide) fX11_276 rfl ?_
  refine z_isub eX11_goOn_208 ?_
  have r1 := h.1
  have h := h.2
  refine q_bi (v := Int32.ofInt 8) eX11_goOn_209 rfl ?_
  refine q_cz_le (tgt := 218) (a := (s.1 139 7 - s.1 139 6)) (b := 8) eX11_goOn_211 (by decide) (ofz r1) (ofz (r32l rfl)) (fun c211 => ?_) (fun c211 => ?_)
  · have h := h.1 c211
    refine q_aload_n eX11_goOn_218 rfl ?_
    refine q_getf (c := 11) (n := 0) (k := 10) (v := .long (s.2 139 10)) eX11_goOn_219 rfl (by decide) (by decide) fX11_290 rfl ?_
    refine q_S1 eX11_goOn_222 DX11_isKept lX11_294 rfl rfl rfl (h.1 hA) ?_
    rintro _ _ ⟨s2, v2, rfl, hA2, b2, rfl, h⟩
    have h := h b2
    refine q_iz_eq (tgt := 232) (a := v2) eX11_goOn_225 (by decide) (ofz (r01 b2)) (fun c225 => ?_) (fun c225 => ?_)
    · have h := h.1 c225
      refine q_ic (v := Int32.ofInt 2) eX11_goOn_232 rfl ?_
      refine z_putI (c := 11) (n := 0) (k := 8) (kz := 8) eX11_goOn_233 rfl (by decide) (by decide) fX11_283 rfl rfl rfl ?_
      refine q_goto (tgt := 376) eX11_goOn_236 (by decide) ?_
      exact q_ret eX11_goOn_376 rfl ⟨_, rfl, (ra_ui hA2 (r32l rfl)), rfl, h⟩
    · have h := h.2 c225
      refine q_ic (v := Int32.ofInt 3) eX11_goOn_228 rfl ?_
      refine q_goto (tgt := 233) eX11_goOn_229 (by decide) ?_
      refine z_putI (c := 11) (n := 0) (k := 8) (kz := 8) eX11_goOn_233 rfl (by decide) (by decide) fX11_283 rfl rfl rfl ?_
      refine q_goto (tgt := 376) eX11_goOn_236 (by decide) ?_
      exact q_ret eX11_goOn_376 rfl ⟨_, rfl, (ra_ui hA2 (r32l rfl)), rfl, h⟩
  · have h := h.2 c211
    refine q_ic (v := Int32.ofInt 1) eX11_goOn_214 rfl ?_
    refine q_goto (tgt := 233) eX11_goOn_215 (by decide) ?_
    refine z_putI (c := 11) (n := 0) (k := 8) (kz := 8) eX11_goOn_233 rfl (by decide) (by decide) fX11_283 rfl rfl rfl ?_
    refine q_goto (tgt := 376) eX11_goOn_236 (by decide) ?_
    exact q_ret eX11_goOn_376 rfl ⟨_, rfl, (ra_ui hA (r32l rfl)), rfl, h⟩
set_option maxRecDepth 20000 in
theorem s_X11_goOn_156 {s : ST} {a2 : Int} {Q : ST → Prop} (h : RA s → R32 a2 → ((s.1 139 7 ≤ a2 → K_X11_goOn_199 s Q) ∧ (¬ s.1 139 7 ≤ a2 → (R32 (s.1 139 6 + 8) ∧ (((s.1 139 6 + 8) ≤ a2 → K_X11_goOn_199 s Q) ∧ (¬ (s.1 139 6 + 8) ≤ a2 → (P_X11_sign s a2 ∧ (R32 (a2 + 1) ∧ K_X11_goOn_156 (uj s 139 10 ((lshl (s.2 139 10) 8) ||| (Int64.ofInt (F_X11_sign s a2)))) (a2 + 1) Q)))))))) : K_X11_goOn_156 s a2 Q := by
  refine ⟨?_, trivial⟩
  intro hA hra2
  have h := h hA hra2
  refine q_iload_n eX11_goOn_156 rfl ?_
  refine q_aload_n eX11_goOn_157 rfl ?_
  refine q_getf (c := 11) (n := 0) (k := 7) (v := .int (Int32.ofInt (s.1 139 7))) eX11_goOn_158 rfl (by decide) (by decide) fX11_273 rfl ?_
  refine q_cz_ge (tgt := 199) (a := a2) (b := s.1 139 7) eX11_goOn_161 (by decide) (ofz hra2) (ofz (hA _ _)) (fun c161 => ?_) (fun c161 => ?_)
  · have h := h.1 c161
    exact q_subL rfl (h.1 hA)
  · have h := h.2 c161
    refine q_iload_n eX11_goOn_164 rfl ?_
    refine q_aload_n eX11_goOn_165 rfl ?_
    refine q_getf (c := 11) (n := 0) (k := 6) (v := .int (Int32.ofInt (s.1 139 6))) eX11_goOn_166 rfl (by decide) (by decide) fX11_276 rfl ?_
    refine q_bi (v := Int32.ofInt 8) eX11_goOn_169 rfl ?_
    refine z_iadd eX11_goOn_171 ?_
    have r1 := h.1
    have h := h.2
    refine q_cz_ge (tgt := 199) (a := a2) (b := (s.1 139 6 + 8)) eX11_goOn_172 (by decide) (ofz hra2) (ofz r1) (fun c172 => ?_) (fun c172 => ?_)
    · have h := h.1 c172
      exact q_subL rfl (h.1 hA)
    · have h := h.2 c172
      refine q_aload_n eX11_goOn_175 rfl ?_
      refine q_aload_n eX11_goOn_176 rfl ?_
      refine q_getf (c := 11) (n := 0) (k := 10) (v := .long (s.2 139 10)) eX11_goOn_177 rfl (by decide) (by decide) fX11_290 rfl ?_
      refine q_bi (v := Int32.ofInt 8) eX11_goOn_180 rfl ?_
      refine z_lshl eX11_goOn_182 ?_
      refine q_aload_n eX11_goOn_183 rfl ?_
      refine q_iload_n eX11_goOn_184 rfl ?_
      have f3 := h.1
      have h := h.2
      refine q_V1 (ci := 11) (n := 0) eX11_goOn_185 DX11_sign lX11_279 rfl (by decide) rfl rfl rfl rfl (p_X11_sign f3 hA hra2) ?_
      rintro _ _ ⟨r2, rfl, rfl⟩
      refine z_i2l eX11_goOn_188 r2 ?_
      refine q_lor eX11_goOn_189 ?_
      refine z_putJ (c := 11) (n := 0) (k := 10) (kz := 10) eX11_goOn_190 rfl (by decide) (by decide) fX11_290 rfl rfl rfl ?_
      have r4 := h.1
      have h := h.2
      refine z_inc (m := 1) eX11_goOn_193 rfl (Nat.le_of_ble_eq_true rfl) rfl ?_
      refine q_goto (tgt := 156) eX11_goOn_196 (by decide) ?_
      exact q_subL rfl (h.1 (ra_uj hA) r4)
set_option maxRecDepth 20000 in
theorem s_X11_goOn_119 {s : ST} {Q : ST → Prop} (h : RA s → (P_X11_sign s (s.1 139 7) ∧ ((¬ (¬ (F_X11_sign s (s.1 139 7)) < 97 ∧ ¬ 122 < (F_X11_sign s (s.1 139 7))) → K_X11_goOn_156 (uj s 139 10 0) (s.1 139 6) Q) ∧ ((¬ (F_X11_sign s (s.1 139 7)) < 97 ∧ ¬ 122 < (F_X11_sign s (s.1 139 7))) → (R32 (s.1 139 7 + 1) ∧ K_X11_goOn_119 (ui s 139 7 (s.1 139 7 + 1)) Q))))) : K_X11_goOn_119 s Q := by
  refine ⟨?_, trivial⟩
  intro hA
  have h := h hA
  refine q_aload_n eX11_goOn_119 rfl ?_
  refine q_aload_n eX11_goOn_120 rfl ?_
  refine q_getf (c := 11) (n := 0) (k := 7) (v := .int (Int32.ofInt (s.1 139 7))) eX11_goOn_121 rfl (by decide) (by decide) fX11_273 rfl ?_
  have f2 := h.1
  have h := h.2
  refine q_V1 (ci := 11) (n := 0) eX11_goOn_124 DX11_sign lX11_279 rfl (by decide) rfl rfl rfl rfl (p_X11_sign f2 hA (hA _ _)) ?_
  rintro _ _ ⟨r1, rfl, rfl⟩
  refine q_S1 eX11_goOn_127 DX11_isLetter lX11_286 rfl rfl rfl (p_X11_isLetter hA r1) ?_
  rintro _ _ ⟨b3, rfl, rfl⟩
  refine q_iz_eq (tgt := 146) (a := (F_X11_isLetter s (F_X11_sign s (s.1 139 7)))) eX11_goOn_130 (by decide) (ofz (r01 b3)) (fun c130 => ?_) (fun c130 => ?_)
  · have h := h.1 (fun q => n_X11_isLetter.mpr q c130)
    refine q_aload_n eX11_goOn_146 rfl ?_
    refine q_lc (v := 0) eX11_goOn_147 rfl ?_
    refine z_putJ (c := 11) (n := 0) (k := 10) (kz := 10) eX11_goOn_148 rfl (by decide) (by decide) fX11_290 rfl rfl rfl ?_
    refine q_aload_n eX11_goOn_151 rfl ?_
    refine q_getf (c := 11) (n := 0) (k := 6) (v := .int (Int32.ofInt (s.1 139 6))) eX11_goOn_152 rfl (by decide) (by decide) fX11_276 rfl ?_
    refine q_istore_n eX11_goOn_155 (Nat.le_of_ble_eq_true rfl) ?_
    exact q_subL rfl (h.1 (ra_uj hA) (hA _ _))
  · have h := h.2 (n_X11_isLetter.mp c130)
    refine q_aload_n eX11_goOn_133 rfl ?_
    refine q_dup eX11_goOn_134 rfl ?_
    refine q_getf (c := 11) (n := 0) (k := 7) (v := .int (Int32.ofInt (s.1 139 7))) eX11_goOn_135 rfl (by decide) (by decide) fX11_273 rfl ?_
    refine q_ic (v := Int32.ofInt 1) eX11_goOn_138 rfl ?_
    refine z_iadd eX11_goOn_139 ?_
    have r4 := h.1
    have h := h.2
    refine z_putI (c := 11) (n := 0) (k := 7) (kz := 7) eX11_goOn_140 rfl (by decide) (by decide) fX11_273 rfl rfl rfl ?_
    refine q_goto (tgt := 119) eX11_goOn_143 (by decide) ?_
    exact q_subL rfl (h.1 (ra_ui hA r4))
set_option maxRecDepth 20000 in
theorem s_X11_goOn_58 {s : ST} {Q : ST → Prop} (h : RA s → (P_X11_sign s (s.1 139 6) ∧ (R32 (s.1 139 6 + 1) ∧ ((s.1 139 6 < s.1 139 3 → ((¬ (¬ (F_X11_sign s (s.1 139 6)) < 97 ∧ ¬ 122 < (F_X11_sign s (s.1 139 6))) → ((¬ (¬ (F_X11_sign s (s.1 139 6)) < 48 ∧ ¬ 57 < (F_X11_sign s (s.1 139 6))) → ((¬ (F_X11_sign s (s.1 139 6)) = 59 → Q (ui (ui s 139 7 (s.1 139 6 + 1)) 139 8 1)) ∧ ((F_X11_sign s (s.1 139 6)) = 59 → Q (ui (ui s 139 7 (s.1 139 6 + 1)) 139 8 5)))) ∧ ((¬ (F_X11_sign s (s.1 139 6)) < 48 ∧ ¬ 57 < (F_X11_sign s (s.1 139 6))) → K_X11_goOn_259 (ui (ui (ui s 139 7 (s.1 139 6 + 1)) 139 9 0) 139 7 (s.1 139 6)) Q))) ∧ ((¬ (F_X11_sign s (s.1 139 6)) < 97 ∧ ¬ 122 < (F_X11_sign s (s.1 139 6))) → K_X11_goOn_119 (ui s 139 7 (s.1 139 6 + 1)) Q))) ∧ (¬ s.1 139 6 < s.1 139 3 → Q (ui (ui (ui (ui s 139 7 (s.1 139 6 + 1)) 139 8 0) 139 6 (s.1 139 3)) 139 7 (s.1 139 3))))))) : K_X11_goOn_58 s Q := by
  refine ⟨?_, trivial⟩
  intro hA
  have h := h hA
  refine q_aload_n eX11_goOn_58 rfl ?_
  refine q_aload_n eX11_goOn_59 rfl ?_
  refine q_getf (c := 11) (n := 0) (k := 6) (v := .int (Int32.ofInt (s.1 139 6))) eX11_goOn_60 rfl (by decide) (by decide) fX11_276 rfl ?_
  have f2 := h.1
  have h := h.2
  refine q_V1 (ci := 11) (n := 0) eX11_goOn_63 DX11_sign lX11_279 rfl (by decide) rfl rfl rfl rfl (p_X11_sign f2 hA (hA _ _)) ?_
  rintro _ _ ⟨r1, rfl, rfl⟩
  refine q_istore_n eX11_goOn_66 (Nat.le_of_ble_eq_true rfl) ?_
  refine q_aload_n eX11_goOn_67 rfl ?_
  refine q_aload_n eX11_goOn_68 rfl ?_
  refine q_getf (c := 11) (n := 0) (k := 6) (v := .int (Int32.ofInt (s.1 139 6))) eX11_goOn_69 rfl (by decide) (by decide) fX11_276 rfl ?_
  refine q_ic (v := Int32.ofInt 1) eX11_goOn_72 rfl ?_
  refine z_iadd eX11_goOn_73 ?_
  have r3 := h.1
  have h := h.2
  refine z_putI (c := 11) (n := 0) (k := 7) (kz := 7) eX11_goOn_74 rfl (by decide) (by decide) fX11_273 rfl rfl rfl ?_
  refine q_aload_n eX11_goOn_77 rfl ?_
  refine q_getf (c := 11) (n := 0) (k := 6) (v := .int (Int32.ofInt (s.1 139 6))) eX11_goOn_78 rfl (by decide) (by decide) fX11_276 rfl ?_
  refine q_aload_n eX11_goOn_81 rfl ?_
  refine q_getf (c := 11) (n := 0) (k := 3) (v := .int (Int32.ofInt (s.1 139 3))) eX11_goOn_82 rfl (by decide) (by decide) fX11_219 rfl ?_
  refine q_cz_lt (tgt := 112) (a := s.1 139 6) (b := s.1 139 3) eX11_goOn_85 (by decide) (ofz (hA _ _)) (ofz (hA _ _)) (fun c85 => ?_) (fun c85 => ?_)
  · have h := h.1 c85
    refine q_iload_n eX11_goOn_112 rfl ?_
    refine q_S1 eX11_goOn_113 DX11_isLetter lX11_286 rfl rfl rfl (p_X11_isLetter (ra_ui hA r3) r1) ?_
    rintro _ _ ⟨b4, rfl, rfl⟩
    refine q_iz_eq (tgt := 239) (a := (F_X11_isLetter (ui s 139 7 (s.1 139 6 + 1)) (F_X11_sign s (s.1 139 6)))) eX11_goOn_116 (by decide) (ofz (r01 b4)) (fun c116 => ?_) (fun c116 => ?_)
    · have h := h.1 (fun q => n_X11_isLetter.mpr q c116)
      refine q_iload_n eX11_goOn_239 rfl ?_
      refine q_S1 eX11_goOn_240 DX11_isDigit lX11_298 rfl rfl rfl (p_X11_isDigit (ra_ui hA r3) r1) ?_
      rintro _ _ ⟨b5, rfl, rfl⟩
      refine q_iz_eq (tgt := 361) (a := (F_X11_isDigit (ui s 139 7 (s.1 139 6 + 1)) (F_X11_sign s (s.1 139 6)))) eX11_goOn_243 (by decide) (ofz (r01 b5)) (fun c243 => ?_) (fun c243 => ?_)
      · have h := h.1 (fun q => n_X11_isDigit.mpr q c243)
        refine q_aload_n eX11_goOn_361 rfl ?_
        refine q_iload_n eX11_goOn_362 rfl ?_
        refine q_bi (v := Int32.ofInt 59) eX11_goOn_363 rfl ?_
        refine q_cz_ne (tgt := 372) (a := (F_X11_sign s (s.1 139 6))) (b := 59) eX11_goOn_365 (by decide) (ofz r1) (ofz (r32l rfl)) (fun c365 => ?_) (fun c365 => ?_)
        · have h := h.1 c365
          refine q_ic (v := Int32.ofInt 1) eX11_goOn_372 rfl ?_
          refine z_putI (c := 11) (n := 0) (k := 8) (kz := 8) eX11_goOn_373 rfl (by decide) (by decide) fX11_283 rfl rfl rfl ?_
          exact q_ret eX11_goOn_376 rfl ⟨_, rfl, (ra_ui (ra_ui hA r3) (r32l rfl)), rfl, h⟩
        · have h := h.2 c365
          refine q_ic (v := Int32.ofInt 5) eX11_goOn_368 rfl ?_
          refine q_goto (tgt := 373) eX11_goOn_369 (by decide) ?_
          refine z_putI (c := 11) (n := 0) (k := 8) (kz := 8) eX11_goOn_373 rfl (by decide) (by decide) fX11_283 rfl rfl rfl ?_
          exact q_ret eX11_goOn_376 rfl ⟨_, rfl, (ra_ui (ra_ui hA r3) (r32l rfl)), rfl, h⟩
      · have h := h.2 (n_X11_isDigit.mp c243)
        refine q_aload_n eX11_goOn_246 rfl ?_
        refine q_ic (v := Int32.ofInt 0) eX11_goOn_247 rfl ?_
        refine z_putI (c := 11) (n := 0) (k := 9) (kz := 9) eX11_goOn_248 rfl (by decide) (by decide) fX11_301 rfl rfl rfl ?_
        refine q_aload_n eX11_goOn_251 rfl ?_
        refine q_aload_n eX11_goOn_252 rfl ?_
        refine q_getf (c := 11) (n := 0) (k := 6) (v := .int (Int32.ofInt (s.1 139 6))) eX11_goOn_253 rfl (by decide) (by decide) fX11_276 rfl ?_
        refine z_putI (c := 11) (n := 0) (k := 7) (kz := 7) eX11_goOn_256 rfl (by decide) (by decide) fX11_273 rfl rfl rfl ?_
        exact q_subL rfl (h.1 (ra_ui (ra_ui (ra_ui hA r3) (r32l rfl)) (hA _ _)))
    · have h := h.2 (n_X11_isLetter.mp c116)
      exact q_subL rfl (h.1 (ra_ui hA r3))
  · have h := h.2 c85
    refine q_aload_n eX11_goOn_88 rfl ?_
    refine q_ic (v := Int32.ofInt 0) eX11_goOn_89 rfl ?_
    refine z_putI (c := 11) (n := 0) (k := 8) (kz := 8) eX11_goOn_90 rfl (by decide) (by decide) fX11_283 rfl rfl rfl ?_
    refine q_aload_n eX11_goOn_93 rfl ?_
    refine q_aload_n eX11_goOn_94 rfl ?_
    refine q_getf (c := 11) (n := 0) (k := 3) (v := .int (Int32.ofInt (s.1 139 3))) eX11_goOn_95 rfl (by decide) (by decide) fX11_219 rfl ?_
    refine z_putI (c := 11) (n := 0) (k := 6) (kz := 6) eX11_goOn_98 rfl (by decide) (by decide) fX11_276 rfl rfl rfl ?_
    refine q_aload_n eX11_goOn_101 rfl ?_
    refine q_aload_n eX11_goOn_102 rfl ?_
    refine q_getf (c := 11) (n := 0) (k := 3) (v := .int (Int32.ofInt (s.1 139 3))) eX11_goOn_103 rfl (by decide) (by decide) fX11_219 rfl ?_
    refine z_putI (c := 11) (n := 0) (k := 7) (kz := 7) eX11_goOn_106 rfl (by decide) (by decide) fX11_273 rfl rfl rfl ?_
    refine q_goto (tgt := 376) eX11_goOn_109 (by decide) ?_
    exact q_ret eX11_goOn_376 rfl ⟨_, rfl, (ra_ui (ra_ui (ra_ui (ra_ui hA r3) (r32l rfl)) (hA _ _)) (hA _ _)), rfl, h⟩
set_option maxRecDepth 20000 in
theorem s_X11_goOn_8 {s : ST} {Q : ST → Prop} (h : RA s → ((s.1 139 3 ≤ s.1 139 6 → K_X11_goOn_58 s Q) ∧ (¬ s.1 139 3 ≤ s.1 139 6 → (P_X11_sign s (s.1 139 6) ∧ (((F_X11_sign s (s.1 139 6)) = 32 → (R32 (s.1 139 6 + 1) ∧ K_X11_goOn_8 (ui s 139 6 (s.1 139 6 + 1)) Q)) ∧ (¬ (F_X11_sign s (s.1 139 6)) = 32 → ((¬ (F_X11_sign s (s.1 139 6)) = 10 → K_X11_goOn_58 s Q) ∧ ((F_X11_sign s (s.1 139 6)) = 10 → (R32 (s.1 139 6 + 1) ∧ K_X11_goOn_8 (ui s 139 6 (s.1 139 6 + 1)) Q))))))))) : K_X11_goOn_8 s Q := by
  refine ⟨?_, trivial⟩
  intro hA
  have h := h hA
  refine q_aload_n eX11_goOn_8 rfl ?_
  refine q_getf (c := 11) (n := 0) (k := 6) (v := .int (Int32.ofInt (s.1 139 6))) eX11_goOn_9 rfl (by decide) (by decide) fX11_276 rfl ?_
  refine q_aload_n eX11_goOn_12 rfl ?_
  refine q_getf (c := 11) (n := 0) (k := 3) (v := .int (Int32.ofInt (s.1 139 3))) eX11_goOn_13 rfl (by decide) (by decide) fX11_219 rfl ?_
  refine q_cz_ge (tgt := 58) (a := s.1 139 6) (b := s.1 139 3) eX11_goOn_16 (by decide) (ofz (hA _ _)) (ofz (hA _ _)) (fun c16 => ?_) (fun c16 => ?_)
  · have h := h.1 c16
    exact q_subL rfl (h.1 hA)
  · have h := h.2 c16
    refine q_aload_n eX11_goOn_19 rfl ?_
    refine q_aload_n eX11_goOn_20 rfl ?_
    refine q_getf (c := 11) (n := 0) (k := 6) (v := .int (Int32.ofInt (s.1 139 6))) eX11_goOn_21 rfl (by decide) (by decide) fX11_276 rfl ?_
    have f2 := h.1
    have h := h.2
    refine q_V1 (ci := 11) (n := 0) eX11_goOn_24 DX11_sign lX11_279 rfl (by decide) rfl rfl rfl rfl (p_X11_sign f2 hA (hA _ _)) ?_
    rintro _ _ ⟨r1, rfl, rfl⟩
    refine q_bi (v := Int32.ofInt 32) eX11_goOn_27 rfl ?_
    refine q_cz_eq (tgt := 45) (a := (F_X11_sign s (s.1 139 6))) (b := 32) eX11_goOn_29 (by decide) (ofz r1) (ofz (r32l rfl)) (fun c29 => ?_) (fun c29 => ?_)
    · have h := h.1 c29
      refine q_aload_n eX11_goOn_45 rfl ?_
      refine q_dup eX11_goOn_46 rfl ?_
      refine q_getf (c := 11) (n := 0) (k := 6) (v := .int (Int32.ofInt (s.1 139 6))) eX11_goOn_47 rfl (by decide) (by decide) fX11_276 rfl ?_
      refine q_ic (v := Int32.ofInt 1) eX11_goOn_50 rfl ?_
      refine z_iadd eX11_goOn_51 ?_
      have r3 := h.1
      have h := h.2
      refine z_putI (c := 11) (n := 0) (k := 6) (kz := 6) eX11_goOn_52 rfl (by decide) (by decide) fX11_276 rfl rfl rfl ?_
      refine q_goto (tgt := 8) eX11_goOn_55 (by decide) ?_
      exact q_subL rfl (h.1 (ra_ui hA r3))
    · have h := h.2 c29
      refine q_aload_n eX11_goOn_32 rfl ?_
      refine q_aload_n eX11_goOn_33 rfl ?_
      refine q_getf (c := 11) (n := 0) (k := 6) (v := .int (Int32.ofInt (s.1 139 6))) eX11_goOn_34 rfl (by decide) (by decide) fX11_276 rfl ?_
      refine q_V1 (ci := 11) (n := 0) eX11_goOn_37 DX11_sign lX11_279 rfl (by decide) rfl rfl rfl rfl (p_X11_sign f2 hA (hA _ _)) ?_
      rintro _ _ ⟨r4, rfl, rfl⟩
      refine q_bi (v := Int32.ofInt 10) eX11_goOn_40 rfl ?_
      refine q_cz_ne (tgt := 58) (a := (F_X11_sign s (s.1 139 6))) (b := 10) eX11_goOn_42 (by decide) (ofz r4) (ofz (r32l rfl)) (fun c42 => ?_) (fun c42 => ?_)
      · have h := h.1 c42
        exact q_subL rfl (h.1 hA)
      · have h := h.2 c42
        refine q_aload_n eX11_goOn_45 rfl ?_
        refine q_dup eX11_goOn_46 rfl ?_
        refine q_getf (c := 11) (n := 0) (k := 6) (v := .int (Int32.ofInt (s.1 139 6))) eX11_goOn_47 rfl (by decide) (by decide) fX11_276 rfl ?_
        refine q_ic (v := Int32.ofInt 1) eX11_goOn_50 rfl ?_
        refine z_iadd eX11_goOn_51 ?_
        have r5 := h.1
        have h := h.2
        refine z_putI (c := 11) (n := 0) (k := 6) (kz := 6) eX11_goOn_52 rfl (by decide) (by decide) fX11_276 rfl rfl rfl ?_
        refine q_goto (tgt := 8) eX11_goOn_55 (by decide) ?_
        exact q_subL rfl (h.1 (ra_ui hA r5))
set_option maxRecDepth 20000 in
theorem s_X11_goOn {s : ST} {Q : ST → Prop} (h : RA s → K_X11_goOn_8 (ui s 139 6 (s.1 139 7)) Q) : C_X11_goOn s Q := by
  refine ⟨?_, trivial⟩
  intro hA
  have h := h hA
  refine q_enter (by decide) (Nat.le_of_ble_eq_true rfl) ?_
  refine q_aload_n eX11_goOn_0 rfl ?_
  refine q_aload_n eX11_goOn_1 rfl ?_
  refine q_getf (c := 11) (n := 0) (k := 7) (v := .int (Int32.ofInt (s.1 139 7))) eX11_goOn_2 rfl (by decide) (by decide) fX11_273 rfl ?_
  refine z_putI (c := 11) (n := 0) (k := 6) (kz := 6) eX11_goOn_5 rfl (by decide) (by decide) fX11_276 rfl rfl rfl ?_
  exact q_subL rfl (h.1 (ra_ui hA (hA _ _)))
theorem eX11_isWord_0 : decode cX11_isWord 0 = .ok (.aload_n 0, 1) := by decide +kernel
theorem eX11_isWord_1 : decode cX11_isWord 1 = .ok (.getfield 283, 3) := by decide +kernel
theorem eX11_isWord_4 : decode cX11_isWord 4 = .ok (.iconst 3, 1) := by decide +kernel
theorem eX11_isWord_5 : decode cX11_isWord 5 = .ok (.if_icmp .ne 16, 3) := by decide +kernel
theorem eX11_isWord_8 : decode cX11_isWord 8 = .ok (.aload_n 0, 1) := by decide +kernel
theorem eX11_isWord_9 : decode cX11_isWord 9 = .ok (.getfield 290, 3) := by decide +kernel
theorem eX11_isWord_12 : decode cX11_isWord 12 = .ok (.lload_n 1, 1) := by decide +kernel
theorem eX11_isWord_13 : decode cX11_isWord 13 = .ok (.lcmp, 1) := by decide +kernel
theorem eX11_isWord_14 : decode cX11_isWord 14 = .ok (.ifCond .ne 7, 3) := by decide +kernel
theorem eX11_isWord_17 : decode cX11_isWord 17 = .ok (.iconst 1, 1) := by decide +kernel
theorem eX11_isWord_18 : decode cX11_isWord 18 = .ok (.goto 4, 3) := by decide +kernel
theorem eX11_isWord_21 : decode cX11_isWord 21 = .ok (.iconst 0, 1) := by decide +kernel
theorem eX11_isWord_22 : decode cX11_isWord 22 = .ok (.ireturn, 1) := by decide +kernel
def C_X11_isWord (s : ST) (p : Int64) (Q : ST → Int → Prop) : Prop := bx <| RA s → q_met mX11_isWord (qs layM s) [.ref 139, .long p] (PB layM Q)
theorem C_X11_isWord.mono {s : ST} {p : Int64} {Q Q' : ST → Int → Prop} (h : C_X11_isWord s p Q) (hq : ∀ s v, Q s v → Q' s v) : C_X11_isWord s p Q' := ⟨fun hA => q_met.mono (h.1 hA) (fun _ _ => PB.mono hq), trivial⟩
set_option maxRecDepth 20000 in
theorem s_X11_isWord {s : ST} {p : Int64} {Q : ST → Int → Prop} (h : RA s → ((¬ s.1 139 8 = 3 → Q s 0) ∧ (s.1 139 8 = 3 → ((¬ (s.2 139 10) = p → Q s 0) ∧ ((s.2 139 10) = p → Q s 1))))) : C_X11_isWord s p Q := by
  refine ⟨?_, trivial⟩
  intro hA
  have h := h hA
  refine q_enter (by decide) (Nat.le_of_ble_eq_true rfl) ?_
  refine q_aload_n eX11_isWord_0 rfl ?_
  refine q_getf (c := 11) (n := 0) (k := 8) (v := .int (Int32.ofInt (s.1 139 8))) eX11_isWord_1 rfl (by decide) (by decide) fX11_283 rfl ?_
  refine q_ic (v := Int32.ofInt 3) eX11_isWord_4 rfl ?_
  refine q_cz_ne (tgt := 21) (a := s.1 139 8) (b := 3) eX11_isWord_5 (by decide) (ofz (hA _ _)) (ofz (r32l rfl)) (fun c5 => ?_) (fun c5 => ?_)
  · have h := h.1 c5
    refine q_ic (v := Int32.ofInt 0) eX11_isWord_21 rfl ?_
    exact q_zret eX11_isWord_22 rfl (z01 (Or.inl rfl)) ⟨_, _, rfl, hA, (Or.inl rfl), rfl, h⟩
  · have h := h.2 c5
    refine q_aload_n eX11_isWord_8 rfl ?_
    refine q_getf (c := 11) (n := 0) (k := 10) (v := .long (s.2 139 10)) eX11_isWord_9 rfl (by decide) (by decide) fX11_290 rfl ?_
    refine q_lload_n eX11_isWord_12 rfl ?_
    refine q_lcmp eX11_isWord_13 ?_
    refine z_lc_ne (tgt := 21) eX11_isWord_14 (by decide) (fun c14 => ?_) (fun c14 => ?_)
    · have h := h.1 c14
      refine q_ic (v := Int32.ofInt 0) eX11_isWord_21 rfl ?_
      exact q_zret eX11_isWord_22 rfl (z01 (Or.inl rfl)) ⟨_, _, rfl, hA, (Or.inl rfl), rfl, h⟩
    · have h := h.2 c14
      refine q_ic (v := Int32.ofInt 1) eX11_isWord_17 rfl ?_
      refine q_goto (tgt := 22) eX11_isWord_18 (by decide) ?_
      exact q_zret eX11_isWord_22 rfl (z01 (Or.inr rfl)) ⟨_, _, rfl, hA, (Or.inr rfl), rfl, h⟩
def F_X11_isWord (s : ST) (p : Int64) : Int := (if s.1 139 8 = 3 then (if (s.2 139 10) = p then 1 else 0) else 0)
theorem w_X11_isWord {s : ST} {p : Int64} : C_X11_isWord s p (fun s' v => s' = s ∧ v = F_X11_isWord s p) := by
  refine s_X11_isWord (fun hA => ?_)
  refine ⟨fun e0 => ?_, fun e0 => ?_⟩
  · exact ⟨rfl, by unfold F_X11_isWord; rw [if_neg e0]⟩
  · refine ⟨fun e1 => ?_, fun e1 => ?_⟩
    · exact ⟨rfl, by unfold F_X11_isWord; rw [if_pos e0, if_neg e1]⟩
    · exact ⟨rfl, by unfold F_X11_isWord; rw [if_pos e0, if_pos e1]⟩
theorem p_X11_isWord {s : ST} {p : Int64} : RA s → q_met mX11_isWord (qs layM s) [.ref 139, .long p] (fun σ r => (F_X11_isWord s p = 0 ∨ F_X11_isWord s p = 1) ∧ σ = qs layM s ∧ r = some (.int (Int32.ofInt (F_X11_isWord s p)))) := fun hA => q_met.mono ((w_X11_isWord).1 hA) (by
  rintro _ _ ⟨s1, v1, rfl, h1, h2, rfl, rfl, rfl⟩
  exact ⟨h2, rfl, rfl⟩)
theorem n_X11_isWord {s : ST} {p : Int64} : ¬ F_X11_isWord s p = 0 ↔ (s.1 139 8 = 3 ∧ (s.2 139 10) = p) := by
  unfold F_X11_isWord
  first | omega | ((repeat' split) <;> simp_all) | ((repeat' split) <;> (simp_all <;> omega))
theorem eX11_misplaced_0 : decode cX11_misplaced 0 = .ok (.aload_n 0, 1) := by decide +kernel
theorem eX11_misplaced_1 : decode cX11_misplaced 1 = .ok (.aload_n 0, 1) := by decide +kernel
theorem eX11_misplaced_2 : decode cX11_misplaced 2 = .ok (.getfield 283, 3) := by decide +kernel
theorem eX11_misplaced_5 : decode cX11_misplaced 5 = .ok (.iconst 1, 1) := by decide +kernel
theorem eX11_misplaced_6 : decode cX11_misplaced 6 = .ok (.if_icmp .ne 7, 3) := by decide +kernel
theorem eX11_misplaced_9 : decode cX11_misplaced 9 = .ok (.iconst 1, 1) := by decide +kernel
theorem eX11_misplaced_10 : decode cX11_misplaced 10 = .ok (.goto 4, 3) := by decide +kernel
theorem eX11_misplaced_13 : decode cX11_misplaced 13 = .ok (.iconst 2, 1) := by decide +kernel
theorem eX11_misplaced_14 : decode cX11_misplaced 14 = .ok (.aload_n 0, 1) := by decide +kernel
theorem eX11_misplaced_15 : decode cX11_misplaced 15 = .ok (.getfield 276, 3) := by decide +kernel
theorem eX11_misplaced_18 : decode cX11_misplaced 18 = .ok (.invokevirtual 304, 3) := by decide +kernel
theorem eX11_misplaced_21 : decode cX11_misplaced 21 = .ok (.return_, 1) := by decide +kernel
def C_X11_misplaced (s : ST) (Q : ST → Prop) : Prop := bx <| RA s → q_met mX11_misplaced (qs layM s) [.ref 139] (PV layM Q)
theorem C_X11_misplaced.mono {s : ST} {Q Q' : ST → Prop} (h : C_X11_misplaced s Q) (hq : ∀ s, Q s → Q' s) : C_X11_misplaced s Q' := ⟨fun hA => q_met.mono (h.1 hA) (fun _ _ => PV.mono hq), trivial⟩
def K_X11_misplaced_14 (s : ST) (t1 : Int) (Q : ST → Prop) : Prop := bx <| RA s → R32 t1 → q_K mX11_misplaced (qs layM s) 0 0 14 [(0, .ref 139)] [.int (Int32.ofInt t1), .ref 139] (q_fin mX11_misplaced (PV layM Q))
set_option maxRecDepth 20000 in
theorem s_X11_misplaced_14 {s : ST} {t1 : Int} {Q : ST → Prop} (h : RA s → R32 t1 → (C_X11_fails s t1 (s.1 139 6) (fun s1 => Q s1))) : K_X11_misplaced_14 s t1 Q := by
  refine ⟨?_, trivial⟩
  intro hA hrt1
  have h := h hA hrt1
  refine q_aload_n eX11_misplaced_14 rfl ?_
  refine q_getf (c := 11) (n := 0) (k := 6) (v := .int (Int32.ofInt (s.1 139 6))) eX11_misplaced_15 rfl (by decide) (by decide) fX11_276 rfl ?_
  refine q_V2 (ci := 11) (n := 0) eX11_misplaced_18 DX11_fails lX11_304 rfl (by decide) rfl rfl rfl rfl (h.1 hA hrt1 (hA _ _)) ?_
  rintro _ _ ⟨s1, rfl, hA1, rfl, h⟩
  exact q_ret eX11_misplaced_21 rfl ⟨_, rfl, hA1, rfl, h⟩
set_option maxRecDepth 20000 in
theorem s_X11_misplaced {s : ST} {Q : ST → Prop} (h : RA s → ((¬ s.1 139 8 = 1 → K_X11_misplaced_14 s 2 Q) ∧ (s.1 139 8 = 1 → K_X11_misplaced_14 s 1 Q))) : C_X11_misplaced s Q := by
  refine ⟨?_, trivial⟩
  intro hA
  have h := h hA
  refine q_enter (by decide) (Nat.le_of_ble_eq_true rfl) ?_
  refine q_aload_n eX11_misplaced_0 rfl ?_
  refine q_aload_n eX11_misplaced_1 rfl ?_
  refine q_getf (c := 11) (n := 0) (k := 8) (v := .int (Int32.ofInt (s.1 139 8))) eX11_misplaced_2 rfl (by decide) (by decide) fX11_283 rfl ?_
  refine q_ic (v := Int32.ofInt 1) eX11_misplaced_5 rfl ?_
  refine q_cz_ne (tgt := 13) (a := s.1 139 8) (b := 1) eX11_misplaced_6 (by decide) (ofz (hA _ _)) (ofz (r32l rfl)) (fun c6 => ?_) (fun c6 => ?_)
  · have h := h.1 c6
    refine q_ic (v := Int32.ofInt 2) eX11_misplaced_13 rfl ?_
    exact q_subL rfl (h.1 hA (r32l rfl))
  · have h := h.2 c6
    refine q_ic (v := Int32.ofInt 1) eX11_misplaced_9 rfl ?_
    refine q_goto (tgt := 14) eX11_misplaced_10 (by decide) ?_
    exact q_subL rfl (h.1 hA (r32l rfl))
theorem eX11_must_0 : decode cX11_must 0 = .ok (.aload_n 0, 1) := by decide +kernel
theorem eX11_must_1 : decode cX11_must 1 = .ok (.invokevirtual 308, 3) := by decide +kernel
theorem eX11_must_4 : decode cX11_must 4 = .ok (.ifCond .ne 4, 3) := by decide +kernel
theorem eX11_must_7 : decode cX11_must 7 = .ok (.return_, 1) := by decide +kernel
theorem eX11_must_8 : decode cX11_must 8 = .ok (.iload_n 1, 1) := by decide +kernel
theorem eX11_must_9 : decode cX11_must 9 = .ok (.ifCond .eq 10, 3) := by decide +kernel
theorem eX11_must_12 : decode cX11_must 12 = .ok (.aload_n 0, 1) := by decide +kernel
theorem eX11_must_13 : decode cX11_must 13 = .ok (.invokevirtual 312, 3) := by decide +kernel
theorem eX11_must_16 : decode cX11_must 16 = .ok (.goto 7, 3) := by decide +kernel
theorem eX11_must_19 : decode cX11_must 19 = .ok (.aload_n 0, 1) := by decide +kernel
theorem eX11_must_20 : decode cX11_must 20 = .ok (.invokevirtual 315, 3) := by decide +kernel
theorem eX11_must_23 : decode cX11_must 23 = .ok (.return_, 1) := by decide +kernel
def C_X11_must (s : ST) (p : Int) (Q : ST → Prop) : Prop := bx <| RA s → R32 p → q_met mX11_must (qs layM s) [.ref 139, .int (Int32.ofInt p)] (PV layM Q)
theorem C_X11_must.mono {s : ST} {p : Int} {Q Q' : ST → Prop} (h : C_X11_must s p Q) (hq : ∀ s, Q s → Q' s) : C_X11_must s p Q' := ⟨fun hA hrp => q_met.mono (h.1 hA hrp) (fun _ _ => PV.mono hq), trivial⟩
set_option maxRecDepth 20000 in
theorem s_X11_must {s : ST} {p : Int} {Q : ST → Prop} (h : RA s → R32 p → (((s.1 139 4 = 0) → ((p = 0 → (C_X11_misplaced s (fun s2 => Q s2))) ∧ (¬ p = 0 → (C_X11_goOn s (fun s3 => Q s3))))) ∧ (¬ (s.1 139 4 = 0) → Q s))) : C_X11_must s p Q := by
  refine ⟨?_, trivial⟩
  intro hA hrp
  have h := h hA hrp
  refine q_enter (by decide) (Nat.le_of_ble_eq_true rfl) ?_
  refine q_aload_n eX11_must_0 rfl ?_
  refine q_V0 (ci := 11) (n := 0) eX11_must_1 DX11_isGood lX11_308 rfl (by decide) rfl rfl rfl rfl (p_X11_isGood hA) ?_
  rintro _ _ ⟨b1, rfl, rfl⟩
  refine q_iz_ne (tgt := 8) (a := (F_X11_isGood s)) eX11_must_4 (by decide) (ofz (r01 b1)) (fun c4 => ?_) (fun c4 => ?_)
  · have h := h.1 (n_X11_isGood.mp c4)
    refine q_iload_n eX11_must_8 rfl ?_
    refine q_iz_eq (tgt := 19) (a := p) eX11_must_9 (by decide) (ofz hrp) (fun c9 => ?_) (fun c9 => ?_)
    · have h := h.1 c9
      refine q_aload_n eX11_must_19 rfl ?_
      refine q_V0 (ci := 11) (n := 0) eX11_must_20 DX11_misplaced lX11_315 rfl (by decide) rfl rfl rfl rfl (h.1 hA) ?_
      rintro _ _ ⟨s2, rfl, hA2, rfl, h⟩
      exact q_ret eX11_must_23 rfl ⟨_, rfl, hA2, rfl, h⟩
    · have h := h.2 c9
      refine q_aload_n eX11_must_12 rfl ?_
      refine q_V0 (ci := 11) (n := 0) eX11_must_13 DX11_goOn lX11_312 rfl (by decide) rfl rfl rfl rfl (h.1 hA) ?_
      rintro _ _ ⟨s3, rfl, hA3, rfl, h⟩
      refine q_goto (tgt := 23) eX11_must_16 (by decide) ?_
      exact q_ret eX11_must_23 rfl ⟨_, rfl, hA3, rfl, h⟩
  · have h := h.2 (fun q => n_X11_isGood.mpr q c4)
    exact q_ret eX11_must_7 rfl ⟨_, rfl, hA, rfl, h⟩
theorem eX11_clearBank_0 : decode cX11_clearBank 0 = .ok (.aload_n 0, 1) := by decide +kernel
theorem eX11_clearBank_1 : decode cX11_clearBank 1 = .ok (.getfield 20, 3) := by decide +kernel
theorem eX11_clearBank_4 : decode cX11_clearBank 4 = .ok (.iload_n 1, 1) := by decide +kernel
theorem eX11_clearBank_5 : decode cX11_clearBank 5 = .ok (.iconst 0, 1) := by decide +kernel
theorem eX11_clearBank_6 : decode cX11_clearBank 6 = .ok (.iastore, 1) := by decide +kernel
theorem eX11_clearBank_7 : decode cX11_clearBank 7 = .ok (.aload_n 0, 1) := by decide +kernel
theorem eX11_clearBank_8 : decode cX11_clearBank 8 = .ok (.getfield 24, 3) := by decide +kernel
theorem eX11_clearBank_11 : decode cX11_clearBank 11 = .ok (.iload_n 1, 1) := by decide +kernel
theorem eX11_clearBank_12 : decode cX11_clearBank 12 = .ok (.iconst 0, 1) := by decide +kernel
theorem eX11_clearBank_13 : decode cX11_clearBank 13 = .ok (.iastore, 1) := by decide +kernel
theorem eX11_clearBank_14 : decode cX11_clearBank 14 = .ok (.aload_n 0, 1) := by decide +kernel
theorem eX11_clearBank_15 : decode cX11_clearBank 15 = .ok (.getfield 27, 3) := by decide +kernel
theorem eX11_clearBank_18 : decode cX11_clearBank 18 = .ok (.iload_n 1, 1) := by decide +kernel
theorem eX11_clearBank_19 : decode cX11_clearBank 19 = .ok (.iconst 0, 1) := by decide +kernel
theorem eX11_clearBank_20 : decode cX11_clearBank 20 = .ok (.iastore, 1) := by decide +kernel
theorem eX11_clearBank_21 : decode cX11_clearBank 21 = .ok (.return_, 1) := by decide +kernel
def C_X11_clearBank (s : ST) (p : Int) (Q : ST → Prop) : Prop := bx <| RA s → R32 p → q_met mX11_clearBank (qs layM s) [.ref 139, .int (Int32.ofInt p)] (PV layM Q)
theorem C_X11_clearBank.mono {s : ST} {p : Int} {Q Q' : ST → Prop} (h : C_X11_clearBank s p Q) (hq : ∀ s, Q s → Q' s) : C_X11_clearBank s p Q' := ⟨fun hA hrp => q_met.mono (h.1 hA hrp) (fun _ _ => PV.mono hq), trivial⟩
set_option maxRecDepth 20000 in
theorem s_X11_clearBank {s : ST} {p : Int} {Q : ST → Prop} (h : RA s → R32 p → (((0 : Int) ≤ p ∧ p < 6) ∧ Q (ui (ui (ui s 142 p 0) 143 p 0) 144 p 0))) : C_X11_clearBank s p Q := by
  refine ⟨?_, trivial⟩
  intro hA hrp
  have h := h hA hrp
  refine q_enter (by decide) (Nat.le_of_ble_eq_true rfl) ?_
  refine q_aload_n eX11_clearBank_0 rfl ?_
  refine q_getR (c := 11) (n := 0) (k := 11) (a := 142) eX11_clearBank_1 rfl (by decide) (by decide) fX11_20 rfl rfl ?_
  refine q_iload_n eX11_clearBank_4 rfl ?_
  refine q_ic (v := Int32.ofInt 0) eX11_clearBank_5 rfl ?_
  have f1 := h.1
  have h := h.2
  refine z_iast (n := 6) eX11_clearBank_6 rfl (ofz hrp) f1  ?_
  refine q_aload_n eX11_clearBank_7 rfl ?_
  refine q_getR (c := 11) (n := 0) (k := 12) (a := 143) eX11_clearBank_8 rfl (by decide) (by decide) fX11_24 rfl rfl ?_
  refine q_iload_n eX11_clearBank_11 rfl ?_
  refine q_ic (v := Int32.ofInt 0) eX11_clearBank_12 rfl ?_
  refine z_iast (n := 6) eX11_clearBank_13 rfl (ofz hrp) f1  ?_
  refine q_aload_n eX11_clearBank_14 rfl ?_
  refine q_getR (c := 11) (n := 0) (k := 13) (a := 144) eX11_clearBank_15 rfl (by decide) (by decide) fX11_27 rfl rfl ?_
  refine q_iload_n eX11_clearBank_18 rfl ?_
  refine q_ic (v := Int32.ofInt 0) eX11_clearBank_19 rfl ?_
  refine z_iast (n := 6) eX11_clearBank_20 rfl (ofz hrp) f1  ?_
  exact q_ret eX11_clearBank_21 rfl ⟨_, rfl, (ra_ui (ra_ui (ra_ui hA (r32l rfl)) (r32l rfl)) (r32l rfl)), rfl, h⟩
theorem eX11_kidsOf_0 : decode cX11_kidsOf 0 = .ok (.iload_n 0, 1) := by decide +kernel
theorem eX11_kidsOf_1 : decode cX11_kidsOf 1 = .ok (.tableswitch 77 3 16 #[71, 73, 75, 73, 73, 71, 71, 77, 73, 71, 71, 73, 73, 71], 71) := by decide +kernel
theorem eX11_kidsOf_72 : decode cX11_kidsOf 72 = .ok (.iconst 1, 1) := by decide +kernel
theorem eX11_kidsOf_73 : decode cX11_kidsOf 73 = .ok (.ireturn, 1) := by decide +kernel
theorem eX11_kidsOf_74 : decode cX11_kidsOf 74 = .ok (.iconst 2, 1) := by decide +kernel
theorem eX11_kidsOf_75 : decode cX11_kidsOf 75 = .ok (.ireturn, 1) := by decide +kernel
theorem eX11_kidsOf_76 : decode cX11_kidsOf 76 = .ok (.iconst 3, 1) := by decide +kernel
theorem eX11_kidsOf_77 : decode cX11_kidsOf 77 = .ok (.ireturn, 1) := by decide +kernel
theorem eX11_kidsOf_78 : decode cX11_kidsOf 78 = .ok (.iconst 0, 1) := by decide +kernel
theorem eX11_kidsOf_79 : decode cX11_kidsOf 79 = .ok (.ireturn, 1) := by decide +kernel
def C_X11_kidsOf (s : ST) (p : Int) (Q : ST → Int → Prop) : Prop := bx <| RA s → R32 p → q_met mX11_kidsOf (qs layM s) [.int (Int32.ofInt p)] (PI layM Q)
theorem C_X11_kidsOf.mono {s : ST} {p : Int} {Q Q' : ST → Int → Prop} (h : C_X11_kidsOf s p Q) (hq : ∀ s v, Q s v → Q' s v) : C_X11_kidsOf s p Q' := ⟨fun hA hrp => q_met.mono (h.1 hA hrp) (fun _ _ => PI.mono hq), trivial⟩
set_option maxRecDepth 20000 in
theorem s_X11_kidsOf {s : ST} {p : Int} {Q : ST → Int → Prop} (h : RA s → R32 p → ((p = 3 → Q s 1) ∧ (p = 4 → Q s 2) ∧ (p = 5 → Q s 3) ∧ (p = 6 → Q s 2) ∧ (p = 7 → Q s 2) ∧ (p = 8 → Q s 1) ∧ (p = 9 → Q s 1) ∧ (p = 10 → Q s 0) ∧ (p = 11 → Q s 2) ∧ (p = 12 → Q s 1) ∧ (p = 13 → Q s 1) ∧ (p = 14 → Q s 2) ∧ (p = 15 → Q s 2) ∧ (p = 16 → Q s 1) ∧ ((p < 3 ∨ 16 < p) → Q s 0))) : C_X11_kidsOf s p Q := by
  refine ⟨?_, trivial⟩
  intro hA hrp
  have h := h hA hrp
  refine q_enter (by decide) (Nat.le_of_ble_eq_true rfl) ?_
  refine q_iload_n eX11_kidsOf_0 rfl ?_
  refine q_tab14 72 74 76 74 74 72 72 78 74 72 72 74 74 72 78 eX11_kidsOf_1 rfl rfl (by decide) (z := p) (ofz hrp) (fun c1 => ?_) (fun c1 => ?_) (fun c1 => ?_) (fun c1 => ?_) (fun c1 => ?_) (fun c1 => ?_) (fun c1 => ?_) (fun c1 => ?_) (fun c1 => ?_) (fun c1 => ?_) (fun c1 => ?_) (fun c1 => ?_) (fun c1 => ?_) (fun c1 => ?_) (fun c1 => ?_)
  · have h := h.1 c1
    refine q_ic (v := Int32.ofInt 1) eX11_kidsOf_72 rfl ?_
    exact q_iret eX11_kidsOf_73 rfl ⟨_, _, rfl, hA, (r32l rfl), rfl, h⟩
  · have h := h.2.1 c1
    refine q_ic (v := Int32.ofInt 2) eX11_kidsOf_74 rfl ?_
    exact q_iret eX11_kidsOf_75 rfl ⟨_, _, rfl, hA, (r32l rfl), rfl, h⟩
  · have h := h.2.2.1 c1
    refine q_ic (v := Int32.ofInt 3) eX11_kidsOf_76 rfl ?_
    exact q_iret eX11_kidsOf_77 rfl ⟨_, _, rfl, hA, (r32l rfl), rfl, h⟩
  · have h := h.2.2.2.1 c1
    refine q_ic (v := Int32.ofInt 2) eX11_kidsOf_74 rfl ?_
    exact q_iret eX11_kidsOf_75 rfl ⟨_, _, rfl, hA, (r32l rfl), rfl, h⟩
  · have h := h.2.2.2.2.1 c1
    refine q_ic (v := Int32.ofInt 2) eX11_kidsOf_74 rfl ?_
    exact q_iret eX11_kidsOf_75 rfl ⟨_, _, rfl, hA, (r32l rfl), rfl, h⟩
  · have h := h.2.2.2.2.2.1 c1
    refine q_ic (v := Int32.ofInt 1) eX11_kidsOf_72 rfl ?_
    exact q_iret eX11_kidsOf_73 rfl ⟨_, _, rfl, hA, (r32l rfl), rfl, h⟩
  · have h := h.2.2.2.2.2.2.1 c1
    refine q_ic (v := Int32.ofInt 1) eX11_kidsOf_72 rfl ?_
    exact q_iret eX11_kidsOf_73 rfl ⟨_, _, rfl, hA, (r32l rfl), rfl, h⟩
  · have h := h.2.2.2.2.2.2.2.1 c1
    refine q_ic (v := Int32.ofInt 0) eX11_kidsOf_78 rfl ?_
    exact q_iret eX11_kidsOf_79 rfl ⟨_, _, rfl, hA, (r32l rfl), rfl, h⟩
  · have h := h.2.2.2.2.2.2.2.2.1 c1
    refine q_ic (v := Int32.ofInt 2) eX11_kidsOf_74 rfl ?_
    exact q_iret eX11_kidsOf_75 rfl ⟨_, _, rfl, hA, (r32l rfl), rfl, h⟩
  · have h := h.2.2.2.2.2.2.2.2.2.1 c1
    refine q_ic (v := Int32.ofInt 1) eX11_kidsOf_72 rfl ?_
    exact q_iret eX11_kidsOf_73 rfl ⟨_, _, rfl, hA, (r32l rfl), rfl, h⟩
  · have h := h.2.2.2.2.2.2.2.2.2.2.1 c1
    refine q_ic (v := Int32.ofInt 1) eX11_kidsOf_72 rfl ?_
    exact q_iret eX11_kidsOf_73 rfl ⟨_, _, rfl, hA, (r32l rfl), rfl, h⟩
  · have h := h.2.2.2.2.2.2.2.2.2.2.2.1 c1
    refine q_ic (v := Int32.ofInt 2) eX11_kidsOf_74 rfl ?_
    exact q_iret eX11_kidsOf_75 rfl ⟨_, _, rfl, hA, (r32l rfl), rfl, h⟩
  · have h := h.2.2.2.2.2.2.2.2.2.2.2.2.1 c1
    refine q_ic (v := Int32.ofInt 2) eX11_kidsOf_74 rfl ?_
    exact q_iret eX11_kidsOf_75 rfl ⟨_, _, rfl, hA, (r32l rfl), rfl, h⟩
  · have h := h.2.2.2.2.2.2.2.2.2.2.2.2.2.1 c1
    refine q_ic (v := Int32.ofInt 1) eX11_kidsOf_72 rfl ?_
    exact q_iret eX11_kidsOf_73 rfl ⟨_, _, rfl, hA, (r32l rfl), rfl, h⟩
  · have h := h.2.2.2.2.2.2.2.2.2.2.2.2.2.2 c1
    refine q_ic (v := Int32.ofInt 0) eX11_kidsOf_78 rfl ?_
    exact q_iret eX11_kidsOf_79 rfl ⟨_, _, rfl, hA, (r32l rfl), rfl, h⟩
def F_X11_kidsOf (s : ST) (p : Int) : Int := (if p = 3 then 1 else (if p = 4 then 2 else (if p = 5 then 3 else (if p = 6 then 2 else (if p = 7 then 2 else (if p = 8 then 1 else (if p = 9 then 1 else (if p = 10 then 0 else (if p = 11 then 2 else (if p = 12 then 1 else (if p = 13 then 1 else (if p = 14 then 2 else (if p = 15 then 2 else (if p = 16 then 1 else 0))))))))))))))
theorem w_X11_kidsOf {s : ST} {p : Int} : C_X11_kidsOf s p (fun s' v => s' = s ∧ v = F_X11_kidsOf s p) := by
  refine s_X11_kidsOf (fun hA hrp => ?_)
  refine ⟨fun e0 => ?_, fun e0 => ?_, fun e0 => ?_, fun e0 => ?_, fun e0 => ?_, fun e0 => ?_, fun e0 => ?_, fun e0 => ?_, fun e0 => ?_, fun e0 => ?_, fun e0 => ?_, fun e0 => ?_, fun e0 => ?_, fun e0 => ?_, fun e0 => ?_⟩
  · exact ⟨rfl, by unfold F_X11_kidsOf; rw [if_pos e0]⟩
  · exact ⟨rfl, by unfold F_X11_kidsOf; rw [if_neg (by omega), if_pos e0]⟩
  · exact ⟨rfl, by unfold F_X11_kidsOf; rw [if_neg (by omega), if_neg (by omega), if_pos e0]⟩
  · exact ⟨rfl, by unfold F_X11_kidsOf; rw [if_neg (by omega), if_neg (by omega), if_neg (by omega), if_pos e0]⟩
  · exact ⟨rfl, by unfold F_X11_kidsOf; rw [if_neg (by omega), if_neg (by omega), if_neg (by omega), if_neg (by omega), if_pos e0]⟩
  · exact ⟨rfl, by unfold F_X11_kidsOf; rw [if_neg (by omega), if_neg (by omega), if_neg (by omega), if_neg (by omega), if_neg (by omega), if_pos e0]⟩
  · exact ⟨rfl, by unfold F_X11_kidsOf; rw [if_neg (by omega), if_neg (by omega), if_neg (by omega), if_neg (by omega), if_neg (by omega), if_neg (by omega), if_pos e0]⟩
  · exact ⟨rfl, by unfold F_X11_kidsOf; rw [if_neg (by omega), if_neg (by omega), if_neg (by omega), if_neg (by omega), if_neg (by omega), if_neg (by omega), if_neg (by omega), if_pos e0]⟩
  · exact ⟨rfl, by unfold F_X11_kidsOf; rw [if_neg (by omega), if_neg (by omega), if_neg (by omega), if_neg (by omega), if_neg (by omega), if_neg (by omega), if_neg (by omega), if_neg (by omega), if_pos e0]⟩
  · exact ⟨rfl, by unfold F_X11_kidsOf; rw [if_neg (by omega), if_neg (by omega), if_neg (by omega), if_neg (by omega), if_neg (by omega), if_neg (by omega), if_neg (by omega), if_neg (by omega), if_neg (by omega), if_pos e0]⟩
  · exact ⟨rfl, by unfold F_X11_kidsOf; rw [if_neg (by omega), if_neg (by omega), if_neg (by omega), if_neg (by omega), if_neg (by omega), if_neg (by omega), if_neg (by omega), if_neg (by omega), if_neg (by omega), if_neg (by omega), if_pos e0]⟩
  · exact ⟨rfl, by unfold F_X11_kidsOf; rw [if_neg (by omega), if_neg (by omega), if_neg (by omega), if_neg (by omega), if_neg (by omega), if_neg (by omega), if_neg (by omega), if_neg (by omega), if_neg (by omega), if_neg (by omega), if_neg (by omega), if_pos e0]⟩
  · exact ⟨rfl, by unfold F_X11_kidsOf; rw [if_neg (by omega), if_neg (by omega), if_neg (by omega), if_neg (by omega), if_neg (by omega), if_neg (by omega), if_neg (by omega), if_neg (by omega), if_neg (by omega), if_neg (by omega), if_neg (by omega), if_neg (by omega), if_pos e0]⟩
  · exact ⟨rfl, by unfold F_X11_kidsOf; rw [if_neg (by omega), if_neg (by omega), if_neg (by omega), if_neg (by omega), if_neg (by omega), if_neg (by omega), if_neg (by omega), if_neg (by omega), if_neg (by omega), if_neg (by omega), if_neg (by omega), if_neg (by omega), if_neg (by omega), if_pos e0]⟩
  · exact ⟨rfl, by unfold F_X11_kidsOf; rw [if_neg (by omega), if_neg (by omega), if_neg (by omega), if_neg (by omega), if_neg (by omega), if_neg (by omega), if_neg (by omega), if_neg (by omega), if_neg (by omega), if_neg (by omega), if_neg (by omega), if_neg (by omega), if_neg (by omega), if_neg (by omega)]⟩
theorem p_X11_kidsOf {s : ST} {p : Int} : RA s → R32 p → q_met mX11_kidsOf (qs layM s) [.int (Int32.ofInt p)] (fun σ r => R32 (F_X11_kidsOf s p) ∧ σ = qs layM s ∧ r = some (.int (Int32.ofInt (F_X11_kidsOf s p)))) := fun hA hrp => q_met.mono ((w_X11_kidsOf).1 hA hrp) (by
  rintro _ _ ⟨s1, v1, rfl, h1, h2, rfl, rfl, rfl⟩
  exact ⟨h2, rfl, rfl⟩)
theorem eX11_sortHere_0 : decode cX11_sortHere 0 = .ok (.aload_n 0, 1) := by decide +kernel
theorem eX11_sortHere_1 : decode cX11_sortHere 1 = .ok (.getfield 283, 3) := by decide +kernel
theorem eX11_sortHere_4 : decode cX11_sortHere 4 = .ok (.iconst 4, 1) := by decide +kernel
theorem eX11_sortHere_5 : decode cX11_sortHere 5 = .ok (.if_icmp .ne 5, 3) := by decide +kernel
theorem eX11_sortHere_8 : decode cX11_sortHere 8 = .ok (.iconst 0, 1) := by decide +kernel
theorem eX11_sortHere_9 : decode cX11_sortHere 9 = .ok (.ireturn, 1) := by decide +kernel
theorem eX11_sortHere_10 : decode cX11_sortHere 10 = .ok (.aload_n 0, 1) := by decide +kernel
theorem eX11_sortHere_11 : decode cX11_sortHere 11 = .ok (.getfield 283, 3) := by decide +kernel
theorem eX11_sortHere_14 : decode cX11_sortHere 14 = .ok (.iconst 2, 1) := by decide +kernel
theorem eX11_sortHere_15 : decode cX11_sortHere 15 = .ok (.if_icmp .ne 5, 3) := by decide +kernel
theorem eX11_sortHere_18 : decode cX11_sortHere 18 = .ok (.iconst 2, 1) := by decide +kernel
theorem eX11_sortHere_19 : decode cX11_sortHere 19 = .ok (.ireturn, 1) := by decide +kernel
theorem eX11_sortHere_20 : decode cX11_sortHere 20 = .ok (.aload_n 0, 1) := by decide +kernel
theorem eX11_sortHere_21 : decode cX11_sortHere 21 = .ok (.getfield 283, 3) := by decide +kernel
theorem eX11_sortHere_24 : decode cX11_sortHere 24 = .ok (.iconst 3, 1) := by decide +kernel
theorem eX11_sortHere_25 : decode cX11_sortHere 25 = .ok (.if_icmp .eq 5, 3) := by decide +kernel
theorem eX11_sortHere_28 : decode cX11_sortHere 28 = .ok (.iconst (-1), 1) := by decide +kernel
theorem eX11_sortHere_29 : decode cX11_sortHere 29 = .ok (.ireturn, 1) := by decide +kernel
theorem eX11_sortHere_30 : decode cX11_sortHere 30 = .ok (.aload_n 0, 1) := by decide +kernel
theorem eX11_sortHere_31 : decode cX11_sortHere 31 = .ok (.getfield 290, 3) := by decide +kernel
theorem eX11_sortHere_34 : decode cX11_sortHere 34 = .ok (.ldc2_w 227, 3) := by decide +kernel
theorem eX11_sortHere_37 : decode cX11_sortHere 37 = .ok (.lcmp, 1) := by decide +kernel
theorem eX11_sortHere_38 : decode cX11_sortHere 38 = .ok (.ifCond .eq 14, 3) := by decide +kernel
theorem eX11_sortHere_41 : decode cX11_sortHere 41 = .ok (.aload_n 0, 1) := by decide +kernel
theorem eX11_sortHere_42 : decode cX11_sortHere 42 = .ok (.getfield 290, 3) := by decide +kernel
theorem eX11_sortHere_45 : decode cX11_sortHere 45 = .ok (.ldc2_w 229, 3) := by decide +kernel
theorem eX11_sortHere_48 : decode cX11_sortHere 48 = .ok (.lcmp, 1) := by decide +kernel
theorem eX11_sortHere_49 : decode cX11_sortHere 49 = .ok (.ifCond .ne 5, 3) := by decide +kernel
theorem eX11_sortHere_52 : decode cX11_sortHere 52 = .ok (.iconst 1, 1) := by decide +kernel
theorem eX11_sortHere_53 : decode cX11_sortHere 53 = .ok (.ireturn, 1) := by decide +kernel
theorem eX11_sortHere_54 : decode cX11_sortHere 54 = .ok (.aload_n 0, 1) := by decide +kernel
theorem eX11_sortHere_55 : decode cX11_sortHere 55 = .ok (.getfield 290, 3) := by decide +kernel
theorem eX11_sortHere_58 : decode cX11_sortHere 58 = .ok (.ldc2_w 231, 3) := by decide +kernel
theorem eX11_sortHere_61 : decode cX11_sortHere 61 = .ok (.lcmp, 1) := by decide +kernel
theorem eX11_sortHere_62 : decode cX11_sortHere 62 = .ok (.ifCond .ne 5, 3) := by decide +kernel
theorem eX11_sortHere_65 : decode cX11_sortHere 65 = .ok (.iconst 3, 1) := by decide +kernel
theorem eX11_sortHere_66 : decode cX11_sortHere 66 = .ok (.ireturn, 1) := by decide +kernel
theorem eX11_sortHere_67 : decode cX11_sortHere 67 = .ok (.aload_n 0, 1) := by decide +kernel
theorem eX11_sortHere_68 : decode cX11_sortHere 68 = .ok (.getfield 290, 3) := by decide +kernel
theorem eX11_sortHere_71 : decode cX11_sortHere 71 = .ok (.ldc2_w 233, 3) := by decide +kernel
theorem eX11_sortHere_74 : decode cX11_sortHere 74 = .ok (.lcmp, 1) := by decide +kernel
theorem eX11_sortHere_75 : decode cX11_sortHere 75 = .ok (.ifCond .ne 5, 3) := by decide +kernel
theorem eX11_sortHere_78 : decode cX11_sortHere 78 = .ok (.iconst 4, 1) := by decide +kernel
theorem eX11_sortHere_79 : decode cX11_sortHere 79 = .ok (.ireturn, 1) := by decide +kernel
theorem eX11_sortHere_80 : decode cX11_sortHere 80 = .ok (.aload_n 0, 1) := by decide +kernel
theorem eX11_sortHere_81 : decode cX11_sortHere 81 = .ok (.getfield 290, 3) := by decide +kernel
theorem eX11_sortHere_84 : decode cX11_sortHere 84 = .ok (.ldc2_w 237, 3) := by decide +kernel
theorem eX11_sortHere_87 : decode cX11_sortHere 87 = .ok (.lcmp, 1) := by decide +kernel
theorem eX11_sortHere_88 : decode cX11_sortHere 88 = .ok (.ifCond .ne 5, 3) := by decide +kernel
theorem eX11_sortHere_91 : decode cX11_sortHere 91 = .ok (.iconst 5, 1) := by decide +kernel
theorem eX11_sortHere_92 : decode cX11_sortHere 92 = .ok (.ireturn, 1) := by decide +kernel
theorem eX11_sortHere_93 : decode cX11_sortHere 93 = .ok (.aload_n 0, 1) := by decide +kernel
theorem eX11_sortHere_94 : decode cX11_sortHere 94 = .ok (.getfield 290, 3) := by decide +kernel
theorem eX11_sortHere_97 : decode cX11_sortHere 97 = .ok (.ldc2_w 239, 3) := by decide +kernel
theorem eX11_sortHere_100 : decode cX11_sortHere 100 = .ok (.lcmp, 1) := by decide +kernel
theorem eX11_sortHere_101 : decode cX11_sortHere 101 = .ok (.ifCond .ne 6, 3) := by decide +kernel
theorem eX11_sortHere_104 : decode cX11_sortHere 104 = .ok (.bipush 6, 2) := by decide +kernel
theorem eX11_sortHere_106 : decode cX11_sortHere 106 = .ok (.ireturn, 1) := by decide +kernel
theorem eX11_sortHere_107 : decode cX11_sortHere 107 = .ok (.aload_n 0, 1) := by decide +kernel
theorem eX11_sortHere_108 : decode cX11_sortHere 108 = .ok (.getfield 290, 3) := by decide +kernel
theorem eX11_sortHere_111 : decode cX11_sortHere 111 = .ok (.ldc2_w 241, 3) := by decide +kernel
theorem eX11_sortHere_114 : decode cX11_sortHere 114 = .ok (.lcmp, 1) := by decide +kernel
theorem eX11_sortHere_115 : decode cX11_sortHere 115 = .ok (.ifCond .ne 6, 3) := by decide +kernel
theorem eX11_sortHere_118 : decode cX11_sortHere 118 = .ok (.bipush 7, 2) := by decide +kernel
theorem eX11_sortHere_120 : decode cX11_sortHere 120 = .ok (.ireturn, 1) := by decide +kernel
theorem eX11_sortHere_121 : decode cX11_sortHere 121 = .ok (.aload_n 0, 1) := by decide +kernel
theorem eX11_sortHere_122 : decode cX11_sortHere 122 = .ok (.getfield 290, 3) := by decide +kernel
theorem eX11_sortHere_125 : decode cX11_sortHere 125 = .ok (.ldc2_w 243, 3) := by decide +kernel
theorem eX11_sortHere_128 : decode cX11_sortHere 128 = .ok (.lcmp, 1) := by decide +kernel
theorem eX11_sortHere_129 : decode cX11_sortHere 129 = .ok (.ifCond .ne 6, 3) := by decide +kernel
theorem eX11_sortHere_132 : decode cX11_sortHere 132 = .ok (.bipush 8, 2) := by decide +kernel
theorem eX11_sortHere_134 : decode cX11_sortHere 134 = .ok (.ireturn, 1) := by decide +kernel
theorem eX11_sortHere_135 : decode cX11_sortHere 135 = .ok (.aload_n 0, 1) := by decide +kernel
theorem eX11_sortHere_136 : decode cX11_sortHere 136 = .ok (.getfield 290, 3) := by decide +kernel
theorem eX11_sortHere_139 : decode cX11_sortHere 139 = .ok (.ldc2_w 245, 3) := by decide +kernel
theorem eX11_sortHere_142 : decode cX11_sortHere 142 = .ok (.lcmp, 1) := by decide +kernel
theorem eX11_sortHere_143 : decode cX11_sortHere 143 = .ok (.ifCond .ne 6, 3) := by decide +kernel
theorem eX11_sortHere_146 : decode cX11_sortHere 146 = .ok (.bipush 9, 2) := by decide +kernel
theorem eX11_sortHere_148 : decode cX11_sortHere 148 = .ok (.ireturn, 1) := by decide +kernel
theorem eX11_sortHere_149 : decode cX11_sortHere 149 = .ok (.aload_n 0, 1) := by decide +kernel
theorem eX11_sortHere_150 : decode cX11_sortHere 150 = .ok (.getfield 290, 3) := by decide +kernel
theorem eX11_sortHere_153 : decode cX11_sortHere 153 = .ok (.ldc2_w 247, 3) := by decide +kernel
theorem eX11_sortHere_156 : decode cX11_sortHere 156 = .ok (.lcmp, 1) := by decide +kernel
theorem eX11_sortHere_157 : decode cX11_sortHere 157 = .ok (.ifCond .ne 6, 3) := by decide +kernel
theorem eX11_sortHere_160 : decode cX11_sortHere 160 = .ok (.bipush 10, 2) := by decide +kernel
theorem eX11_sortHere_162 : decode cX11_sortHere 162 = .ok (.ireturn, 1) := by decide +kernel
theorem eX11_sortHere_163 : decode cX11_sortHere 163 = .ok (.aload_n 0, 1) := by decide +kernel
theorem eX11_sortHere_164 : decode cX11_sortHere 164 = .ok (.getfield 290, 3) := by decide +kernel
theorem eX11_sortHere_167 : decode cX11_sortHere 167 = .ok (.ldc2_w 249, 3) := by decide +kernel
theorem eX11_sortHere_170 : decode cX11_sortHere 170 = .ok (.lcmp, 1) := by decide +kernel
theorem eX11_sortHere_171 : decode cX11_sortHere 171 = .ok (.ifCond .ne 6, 3) := by decide +kernel
theorem eX11_sortHere_174 : decode cX11_sortHere 174 = .ok (.bipush 11, 2) := by decide +kernel
theorem eX11_sortHere_176 : decode cX11_sortHere 176 = .ok (.ireturn, 1) := by decide +kernel
theorem eX11_sortHere_177 : decode cX11_sortHere 177 = .ok (.aload_n 0, 1) := by decide +kernel
theorem eX11_sortHere_178 : decode cX11_sortHere 178 = .ok (.getfield 290, 3) := by decide +kernel
theorem eX11_sortHere_181 : decode cX11_sortHere 181 = .ok (.ldc2_w 251, 3) := by decide +kernel
theorem eX11_sortHere_184 : decode cX11_sortHere 184 = .ok (.lcmp, 1) := by decide +kernel
theorem eX11_sortHere_185 : decode cX11_sortHere 185 = .ok (.ifCond .ne 6, 3) := by decide +kernel
theorem eX11_sortHere_188 : decode cX11_sortHere 188 = .ok (.bipush 12, 2) := by decide +kernel
theorem eX11_sortHere_190 : decode cX11_sortHere 190 = .ok (.ireturn, 1) := by decide +kernel
theorem eX11_sortHere_191 : decode cX11_sortHere 191 = .ok (.aload_n 0, 1) := by decide +kernel
theorem eX11_sortHere_192 : decode cX11_sortHere 192 = .ok (.getfield 290, 3) := by decide +kernel
theorem eX11_sortHere_195 : decode cX11_sortHere 195 = .ok (.ldc2_w 253, 3) := by decide +kernel
theorem eX11_sortHere_198 : decode cX11_sortHere 198 = .ok (.lcmp, 1) := by decide +kernel
theorem eX11_sortHere_199 : decode cX11_sortHere 199 = .ok (.ifCond .ne 6, 3) := by decide +kernel
theorem eX11_sortHere_202 : decode cX11_sortHere 202 = .ok (.bipush 13, 2) := by decide +kernel
theorem eX11_sortHere_204 : decode cX11_sortHere 204 = .ok (.ireturn, 1) := by decide +kernel
theorem eX11_sortHere_205 : decode cX11_sortHere 205 = .ok (.aload_n 0, 1) := by decide +kernel
theorem eX11_sortHere_206 : decode cX11_sortHere 206 = .ok (.getfield 290, 3) := by decide +kernel
theorem eX11_sortHere_209 : decode cX11_sortHere 209 = .ok (.ldc2_w 255, 3) := by decide +kernel
theorem eX11_sortHere_212 : decode cX11_sortHere 212 = .ok (.lcmp, 1) := by decide +kernel
theorem eX11_sortHere_213 : decode cX11_sortHere 213 = .ok (.ifCond .ne 6, 3) := by decide +kernel
theorem eX11_sortHere_216 : decode cX11_sortHere 216 = .ok (.bipush 14, 2) := by decide +kernel
theorem eX11_sortHere_218 : decode cX11_sortHere 218 = .ok (.ireturn, 1) := by decide +kernel
theorem eX11_sortHere_219 : decode cX11_sortHere 219 = .ok (.aload_n 0, 1) := by decide +kernel
theorem eX11_sortHere_220 : decode cX11_sortHere 220 = .ok (.getfield 290, 3) := by decide +kernel
theorem eX11_sortHere_223 : decode cX11_sortHere 223 = .ok (.ldc2_w 257, 3) := by decide +kernel
theorem eX11_sortHere_226 : decode cX11_sortHere 226 = .ok (.lcmp, 1) := by decide +kernel
theorem eX11_sortHere_227 : decode cX11_sortHere 227 = .ok (.ifCond .ne 6, 3) := by decide +kernel
theorem eX11_sortHere_230 : decode cX11_sortHere 230 = .ok (.bipush 15, 2) := by decide +kernel
theorem eX11_sortHere_232 : decode cX11_sortHere 232 = .ok (.ireturn, 1) := by decide +kernel
theorem eX11_sortHere_233 : decode cX11_sortHere 233 = .ok (.aload_n 0, 1) := by decide +kernel
theorem eX11_sortHere_234 : decode cX11_sortHere 234 = .ok (.getfield 290, 3) := by decide +kernel
theorem eX11_sortHere_237 : decode cX11_sortHere 237 = .ok (.ldc2_w 259, 3) := by decide +kernel
theorem eX11_sortHere_240 : decode cX11_sortHere 240 = .ok (.lcmp, 1) := by decide +kernel
theorem eX11_sortHere_241 : decode cX11_sortHere 241 = .ok (.ifCond .ne 8, 3) := by decide +kernel
theorem eX11_sortHere_244 : decode cX11_sortHere 244 = .ok (.bipush 16, 2) := by decide +kernel
theorem eX11_sortHere_246 : decode cX11_sortHere 246 = .ok (.goto 4, 3) := by decide +kernel
theorem eX11_sortHere_249 : decode cX11_sortHere 249 = .ok (.iconst (-1), 1) := by decide +kernel
theorem eX11_sortHere_250 : decode cX11_sortHere 250 = .ok (.ireturn, 1) := by decide +kernel
def C_X11_sortHere (s : ST) (Q : ST → Int → Prop) : Prop := bx <| RA s → q_met mX11_sortHere (qs layM s) [.ref 139] (PI layM Q)
theorem C_X11_sortHere.mono {s : ST} {Q Q' : ST → Int → Prop} (h : C_X11_sortHere s Q) (hq : ∀ s v, Q s v → Q' s v) : C_X11_sortHere s Q' := ⟨fun hA => q_met.mono (h.1 hA) (fun _ _ => PI.mono hq), trivial⟩
set_option maxRecDepth 20000 in
theorem s_X11_sortHere {s : ST} {Q : ST → Int → Prop} (h : RA s → ((¬ s.1 139 8 = 4 → ((¬ s.1 139 8 = 2 → ((s.1 139 8 = 3 → (((s.2 139 10) = 7955827 → Q s 1) ∧ (¬ (s.2 139 10) = 7955827 → ((¬ (s.2 139 10) = 28271 → ((¬ (s.2 139 10) = 6714734 → ((¬ (s.2 139 10) = 7103860 → ((¬ (s.2 139 10) = 26982 → ((¬ (s.2 139 10) = 1667329132 → ((¬ (s.2 139 10) = 1885432178 → ((¬ (s.2 139 10) = 439855772532 → ((¬ (s.2 139 10) = 126879297138276 → ((¬ (s.2 139 10) = 7235948 → ((¬ (s.2 139 10) = 1668247155 → ((¬ (s.2 139 10) = 1751474532 → ((¬ (s.2 139 10) = 1952541036 → ((¬ (s.2 139 10) = 6382692 → ((¬ (s.2 139 10) = 1818588019 → ((¬ (s.2 139 10) = 24947 → Q s (-1)) ∧ ((s.2 139 10) = 24947 → Q s 16))) ∧ ((s.2 139 10) = 1818588019 → Q s 15))) ∧ ((s.2 139 10) = 6382692 → Q s 14))) ∧ ((s.2 139 10) = 1952541036 → Q s 13))) ∧ ((s.2 139 10) = 1751474532 → Q s 12))) ∧ ((s.2 139 10) = 1668247155 → Q s 11))) ∧ ((s.2 139 10) = 7235948 → Q s 10))) ∧ ((s.2 139 10) = 126879297138276 → Q s 9))) ∧ ((s.2 139 10) = 439855772532 → Q s 8))) ∧ ((s.2 139 10) = 1885432178 → Q s 7))) ∧ ((s.2 139 10) = 1667329132 → Q s 6))) ∧ ((s.2 139 10) = 26982 → Q s 5))) ∧ ((s.2 139 10) = 7103860 → Q s 4))) ∧ ((s.2 139 10) = 6714734 → Q s 3))) ∧ ((s.2 139 10) = 28271 → Q s 1))))) ∧ (¬ s.1 139 8 = 3 → Q s (-1)))) ∧ (s.1 139 8 = 2 → Q s 2))) ∧ (s.1 139 8 = 4 → Q s 0))) : C_X11_sortHere s Q := by
  refine ⟨?_, trivial⟩
  intro hA
  have h := h hA
  refine q_enter (by decide) (Nat.le_of_ble_eq_true rfl) ?_
  refine q_aload_n eX11_sortHere_0 rfl ?_
  refine q_getf (c := 11) (n := 0) (k := 8) (v := .int (Int32.ofInt (s.1 139 8))) eX11_sortHere_1 rfl (by decide) (by decide) fX11_283 rfl ?_
  refine q_ic (v := Int32.ofInt 4) eX11_sortHere_4 rfl ?_
  refine q_cz_ne (tgt := 10) (a := s.1 139 8) (b := 4) eX11_sortHere_5 (by decide) (ofz (hA _ _)) (ofz (r32l rfl)) (fun c5 => ?_) (fun c5 => ?_)
  · have h := h.1 c5
    refine q_aload_n eX11_sortHere_10 rfl ?_
    refine q_getf (c := 11) (n := 0) (k := 8) (v := .int (Int32.ofInt (s.1 139 8))) eX11_sortHere_11 rfl (by decide) (by decide) fX11_283 rfl ?_
    refine q_ic (v := Int32.ofInt 2) eX11_sortHere_14 rfl ?_
    refine q_cz_ne (tgt := 20) (a := s.1 139 8) (b := 2) eX11_sortHere_15 (by decide) (ofz (hA _ _)) (ofz (r32l rfl)) (fun c15 => ?_) (fun c15 => ?_)
    · have h := h.1 c15
      refine q_aload_n eX11_sortHere_20 rfl ?_
      refine q_getf (c := 11) (n := 0) (k := 8) (v := .int (Int32.ofInt (s.1 139 8))) eX11_sortHere_21 rfl (by decide) (by decide) fX11_283 rfl ?_
      refine q_ic (v := Int32.ofInt 3) eX11_sortHere_24 rfl ?_
      refine q_cz_eq (tgt := 30) (a := s.1 139 8) (b := 3) eX11_sortHere_25 (by decide) (ofz (hA _ _)) (ofz (r32l rfl)) (fun c25 => ?_) (fun c25 => ?_)
      · have h := h.1 c25
        refine q_aload_n eX11_sortHere_30 rfl ?_
        refine q_getf (c := 11) (n := 0) (k := 10) (v := .long (s.2 139 10)) eX11_sortHere_31 rfl (by decide) (by decide) fX11_290 rfl ?_
        refine q_ldc2 (v := 7955827) eX11_sortHere_34 nX11_227 ?_
        refine q_lcmp eX11_sortHere_37 ?_
        refine z_lc_eq (tgt := 52) eX11_sortHere_38 (by decide) (fun c38 => ?_) (fun c38 => ?_)
        · have h := h.1 c38
          refine q_ic (v := Int32.ofInt 1) eX11_sortHere_52 rfl ?_
          exact q_iret eX11_sortHere_53 rfl ⟨_, _, rfl, hA, (r32l rfl), rfl, h⟩
        · have h := h.2 c38
          refine q_aload_n eX11_sortHere_41 rfl ?_
          refine q_getf (c := 11) (n := 0) (k := 10) (v := .long (s.2 139 10)) eX11_sortHere_42 rfl (by decide) (by decide) fX11_290 rfl ?_
          refine q_ldc2 (v := 28271) eX11_sortHere_45 nX11_229 ?_
          refine q_lcmp eX11_sortHere_48 ?_
          refine z_lc_ne (tgt := 54) eX11_sortHere_49 (by decide) (fun c49 => ?_) (fun c49 => ?_)
          · have h := h.1 c49
            refine q_aload_n eX11_sortHere_54 rfl ?_
            refine q_getf (c := 11) (n := 0) (k := 10) (v := .long (s.2 139 10)) eX11_sortHere_55 rfl (by decide) (by decide) fX11_290 rfl ?_
            refine q_ldc2 (v := 6714734) eX11_sortHere_58 nX11_231 ?_
            refine q_lcmp eX11_sortHere_61 ?_
            refine z_lc_ne (tgt := 67) eX11_sortHere_62 (by decide) (fun c62 => ?_) (fun c62 => ?_)
            · have h := h.1 c62
              refine q_aload_n eX11_sortHere_67 rfl ?_
              refine q_getf (c := 11) (n := 0) (k := 10) (v := .long (s.2 139 10)) eX11_sortHere_68 rfl (by decide) (by decide) fX11_290 rfl ?_
              refine q_ldc2 (v := 7103860) eX11_sortHere_71 nX11_233 ?_
              refine q_lcmp eX11_sortHere_74 ?_
              refine z_lc_ne (tgt := 80) eX11_sortHere_75 (by decide) (fun c75 => ?_) (fun c75 => ?_)
              · have h := h.1 c75
                refine q_aload_n eX11_sortHere_80 rfl ?_
                refine q_getf (c := 11) (n := 0) (k := 10) (v := .long (s.2 139 10)) eX11_sortHere_81 rfl (by decide) (by decide) fX11_290 rfl ?_
                refine q_ldc2 (v := 26982) eX11_sortHere_84 nX11_237 ?_
                refine q_lcmp eX11_sortHere_87 ?_
                refine z_lc_ne (tgt := 93) eX11_sortHere_88 (by decide) (fun c88 => ?_) (fun c88 => ?_)
                · have h := h.1 c88
                  refine q_aload_n eX11_sortHere_93 rfl ?_
                  refine q_getf (c := 11) (n := 0) (k := 10) (v := .long (s.2 139 10)) eX11_sortHere_94 rfl (by decide) (by decide) fX11_290 rfl ?_
                  refine q_ldc2 (v := 1667329132) eX11_sortHere_97 nX11_239 ?_
                  refine q_lcmp eX11_sortHere_100 ?_
                  refine z_lc_ne (tgt := 107) eX11_sortHere_101 (by decide) (fun c101 => ?_) (fun c101 => ?_)
                  · have h := h.1 c101
                    refine q_aload_n eX11_sortHere_107 rfl ?_
                    refine q_getf (c := 11) (n := 0) (k := 10) (v := .long (s.2 139 10)) eX11_sortHere_108 rfl (by decide) (by decide) fX11_290 rfl ?_
                    refine q_ldc2 (v := 1885432178) eX11_sortHere_111 nX11_241 ?_
                    refine q_lcmp eX11_sortHere_114 ?_
                    refine z_lc_ne (tgt := 121) eX11_sortHere_115 (by decide) (fun c115 => ?_) (fun c115 => ?_)
                    · have h := h.1 c115
                      refine q_aload_n eX11_sortHere_121 rfl ?_
                      refine q_getf (c := 11) (n := 0) (k := 10) (v := .long (s.2 139 10)) eX11_sortHere_122 rfl (by decide) (by decide) fX11_290 rfl ?_
                      refine q_ldc2 (v := 439855772532) eX11_sortHere_125 nX11_243 ?_
                      refine q_lcmp eX11_sortHere_128 ?_
                      refine z_lc_ne (tgt := 135) eX11_sortHere_129 (by decide) (fun c129 => ?_) (fun c129 => ?_)
                      · have h := h.1 c129
                        refine q_aload_n eX11_sortHere_135 rfl ?_
                        refine q_getf (c := 11) (n := 0) (k := 10) (v := .long (s.2 139 10)) eX11_sortHere_136 rfl (by decide) (by decide) fX11_290 rfl ?_
                        refine q_ldc2 (v := 126879297138276) eX11_sortHere_139 nX11_245 ?_
                        refine q_lcmp eX11_sortHere_142 ?_
                        refine z_lc_ne (tgt := 149) eX11_sortHere_143 (by decide) (fun c143 => ?_) (fun c143 => ?_)
                        · have h := h.1 c143
                          refine q_aload_n eX11_sortHere_149 rfl ?_
                          refine q_getf (c := 11) (n := 0) (k := 10) (v := .long (s.2 139 10)) eX11_sortHere_150 rfl (by decide) (by decide) fX11_290 rfl ?_
                          refine q_ldc2 (v := 7235948) eX11_sortHere_153 nX11_247 ?_
                          refine q_lcmp eX11_sortHere_156 ?_
                          refine z_lc_ne (tgt := 163) eX11_sortHere_157 (by decide) (fun c157 => ?_) (fun c157 => ?_)
                          · have h := h.1 c157
                            refine q_aload_n eX11_sortHere_163 rfl ?_
                            refine q_getf (c := 11) (n := 0) (k := 10) (v := .long (s.2 139 10)) eX11_sortHere_164 rfl (by decide) (by decide) fX11_290 rfl ?_
                            refine q_ldc2 (v := 1668247155) eX11_sortHere_167 nX11_249 ?_
                            refine q_lcmp eX11_sortHere_170 ?_
                            refine z_lc_ne (tgt := 177) eX11_sortHere_171 (by decide) (fun c171 => ?_) (fun c171 => ?_)
                            · have h := h.1 c171
                              refine q_aload_n eX11_sortHere_177 rfl ?_
                              refine q_getf (c := 11) (n := 0) (k := 10) (v := .long (s.2 139 10)) eX11_sortHere_178 rfl (by decide) (by decide) fX11_290 rfl ?_
                              refine q_ldc2 (v := 1751474532) eX11_sortHere_181 nX11_251 ?_
                              refine q_lcmp eX11_sortHere_184 ?_
                              refine z_lc_ne (tgt := 191) eX11_sortHere_185 (by decide) (fun c185 => ?_) (fun c185 => ?_)
                              · have h := h.1 c185
                                refine q_aload_n eX11_sortHere_191 rfl ?_
                                refine q_getf (c := 11) (n := 0) (k := 10) (v := .long (s.2 139 10)) eX11_sortHere_192 rfl (by decide) (by decide) fX11_290 rfl ?_
                                refine q_ldc2 (v := 1952541036) eX11_sortHere_195 nX11_253 ?_
                                refine q_lcmp eX11_sortHere_198 ?_
                                refine z_lc_ne (tgt := 205) eX11_sortHere_199 (by decide) (fun c199 => ?_) (fun c199 => ?_)
                                · have h := h.1 c199
                                  refine q_aload_n eX11_sortHere_205 rfl ?_
                                  refine q_getf (c := 11) (n := 0) (k := 10) (v := .long (s.2 139 10)) eX11_sortHere_206 rfl (by decide) (by decide) fX11_290 rfl ?_
                                  refine q_ldc2 (v := 6382692) eX11_sortHere_209 nX11_255 ?_
                                  refine q_lcmp eX11_sortHere_212 ?_
                                  refine z_lc_ne (tgt := 219) eX11_sortHere_213 (by decide) (fun c213 => ?_) (fun c213 => ?_)
                                  · have h := h.1 c213
                                    refine q_aload_n eX11_sortHere_219 rfl ?_
                                    refine q_getf (c := 11) (n := 0) (k := 10) (v := .long (s.2 139 10)) eX11_sortHere_220 rfl (by decide) (by decide) fX11_290 rfl ?_
                                    refine q_ldc2 (v := 1818588019) eX11_sortHere_223 nX11_257 ?_
                                    refine q_lcmp eX11_sortHere_226 ?_
                                    refine z_lc_ne (tgt := 233) eX11_sortHere_227 (by decide) (fun c227 => ?_) (fun c227 => ?_)
                                    · have h := h.1 c227
                                      refine q_aload_n eX11_sortHere_233 rfl ?_
                                      refine q_getf (c := 11) (n := 0) (k := 10) (v := .long (s.2 139 10)) eX11_sortHere_234 rfl (by decide) (by decide) fX11_290 rfl ?_
                                      refine q_ldc2 (v := 24947) eX11_sortHere_237 nX11_259 ?_
                                      refine q_lcmp eX11_sortHere_240 ?_
                                      refine z_lc_ne (tgt := 249) eX11_sortHere_241 (by decide) (fun c241 => ?_) (fun c241 => ?_)
                                      · have h := h.1 c241
                                        refine q_ic (v := Int32.ofInt (-1)) eX11_sortHere_249 rfl ?_
                                        exact q_iret eX11_sortHere_250 rfl ⟨_, _, rfl, hA, (r32l rfl), rfl, h⟩
                                      · have h := h.2 c241
                                        refine q_bi (v := Int32.ofInt 16) eX11_sortHere_244 rfl ?_
                                        refine q_goto (tgt := 250) eX11_sortHere_246 (by decide) ?_
                                        exact q_iret eX11_sortHere_250 rfl ⟨_, _, rfl, hA, (r32l rfl), rfl, h⟩
                                    · have h := h.2 c227
                                      refine q_bi (v := Int32.ofInt 15) eX11_sortHere_230 rfl ?_
                                      exact q_iret eX11_sortHere_232 rfl ⟨_, _, rfl, hA, (r32l rfl), rfl, h⟩
                                  · have h := h.2 c213
                                    refine q_bi (v := Int32.ofInt 14) eX11_sortHere_216 rfl ?_
                                    exact q_iret eX11_sortHere_218 rfl ⟨_, _, rfl, hA, (r32l rfl), rfl, h⟩
                                · have h := h.2 c199
                                  refine q_bi (v := Int32.ofInt 13) eX11_sortHere_202 rfl ?_
                                  exact q_iret eX11_sortHere_204 rfl ⟨_, _, rfl, hA, (r32l rfl), rfl, h⟩
                              · have h := h.2 c185
                                refine q_bi (v := Int32.ofInt 12) eX11_sortHere_188 rfl ?_
                                exact q_iret eX11_sortHere_190 rfl ⟨_, _, rfl, hA, (r32l rfl), rfl, h⟩
                            · have h := h.2 c171
                              refine q_bi (v := Int32.ofInt 11) eX11_sortHere_174 rfl ?_
                              exact q_iret eX11_sortHere_176 rfl ⟨_, _, rfl, hA, (r32l rfl), rfl, h⟩
                          · have h := h.2 c157
                            refine q_bi (v := Int32.ofInt 10) eX11_sortHere_160 rfl ?_
                            exact q_iret eX11_sortHere_162 rfl ⟨_, _, rfl, hA, (r32l rfl), rfl, h⟩
                        · have h := h.2 c143
                          refine q_bi (v := Int32.ofInt 9) eX11_sortHere_146 rfl ?_
                          exact q_iret eX11_sortHere_148 rfl ⟨_, _, rfl, hA, (r32l rfl), rfl, h⟩
                      · have h := h.2 c129
                        refine q_bi (v := Int32.ofInt 8) eX11_sortHere_132 rfl ?_
                        exact q_iret eX11_sortHere_134 rfl ⟨_, _, rfl, hA, (r32l rfl), rfl, h⟩
                    · have h := h.2 c115
                      refine q_bi (v := Int32.ofInt 7) eX11_sortHere_118 rfl ?_
                      exact q_iret eX11_sortHere_120 rfl ⟨_, _, rfl, hA, (r32l rfl), rfl, h⟩
                  · have h := h.2 c101
                    refine q_bi (v := Int32.ofInt 6) eX11_sortHere_104 rfl ?_
                    exact q_iret eX11_sortHere_106 rfl ⟨_, _, rfl, hA, (r32l rfl), rfl, h⟩
                · have h := h.2 c88
                  refine q_ic (v := Int32.ofInt 5) eX11_sortHere_91 rfl ?_
                  exact q_iret eX11_sortHere_92 rfl ⟨_, _, rfl, hA, (r32l rfl), rfl, h⟩
              · have h := h.2 c75
                refine q_ic (v := Int32.ofInt 4) eX11_sortHere_78 rfl ?_
                exact q_iret eX11_sortHere_79 rfl ⟨_, _, rfl, hA, (r32l rfl), rfl, h⟩
            · have h := h.2 c62
              refine q_ic (v := Int32.ofInt 3) eX11_sortHere_65 rfl ?_
              exact q_iret eX11_sortHere_66 rfl ⟨_, _, rfl, hA, (r32l rfl), rfl, h⟩
          · have h := h.2 c49
            refine q_ic (v := Int32.ofInt 1) eX11_sortHere_52 rfl ?_
            exact q_iret eX11_sortHere_53 rfl ⟨_, _, rfl, hA, (r32l rfl), rfl, h⟩
      · have h := h.2 c25
        refine q_ic (v := Int32.ofInt (-1)) eX11_sortHere_28 rfl ?_
        exact q_iret eX11_sortHere_29 rfl ⟨_, _, rfl, hA, (r32l rfl), rfl, h⟩
    · have h := h.2 c15
      refine q_ic (v := Int32.ofInt 2) eX11_sortHere_18 rfl ?_
      exact q_iret eX11_sortHere_19 rfl ⟨_, _, rfl, hA, (r32l rfl), rfl, h⟩
  · have h := h.2 c5
    refine q_ic (v := Int32.ofInt 0) eX11_sortHere_8 rfl ?_
    exact q_iret eX11_sortHere_9 rfl ⟨_, _, rfl, hA, (r32l rfl), rfl, h⟩
def F_X11_sortHere (s : ST) : Int := (if s.1 139 8 = 4 then 0 else (if s.1 139 8 = 2 then 2 else (if s.1 139 8 = 3 then (if (s.2 139 10) = 7955827 then 1 else (if (s.2 139 10) = 28271 then 1 else (if (s.2 139 10) = 6714734 then 3 else (if (s.2 139 10) = 7103860 then 4 else (if (s.2 139 10) = 26982 then 5 else (if (s.2 139 10) = 1667329132 then 6 else (if (s.2 139 10) = 1885432178 then 7 else (if (s.2 139 10) = 439855772532 then 8 else (if (s.2 139 10) = 126879297138276 then 9 else (if (s.2 139 10) = 7235948 then 10 else (if (s.2 139 10) = 1668247155 then 11 else (if (s.2 139 10) = 1751474532 then 12 else (if (s.2 139 10) = 1952541036 then 13 else (if (s.2 139 10) = 6382692 then 14 else (if (s.2 139 10) = 1818588019 then 15 else (if (s.2 139 10) = 24947 then 16 else (-1))))))))))))))))) else (-1))))
theorem w_X11_sortHere {s : ST} : C_X11_sortHere s (fun s' v => s' = s ∧ v = F_X11_sortHere s) := by
  refine s_X11_sortHere (fun hA => ?_)
  refine ⟨fun e0 => ?_, fun e0 => ?_⟩
  · refine ⟨fun e1 => ?_, fun e1 => ?_⟩
    · refine ⟨fun e2 => ?_, fun e2 => ?_⟩
      · refine ⟨fun e3 => ?_, fun e3 => ?_⟩
        · exact ⟨rfl, by unfold F_X11_sortHere; rw [if_neg e0, if_neg e1, if_pos e2, if_pos e3]⟩
        · refine ⟨fun e4 => ?_, fun e4 => ?_⟩
          · refine ⟨fun e5 => ?_, fun e5 => ?_⟩
            · refine ⟨fun e6 => ?_, fun e6 => ?_⟩
              · refine ⟨fun e7 => ?_, fun e7 => ?_⟩
                · refine ⟨fun e8 => ?_, fun e8 => ?_⟩
                  · refine ⟨fun e9 => ?_, fun e9 => ?_⟩
                    · refine ⟨fun e10 => ?_, fun e10 => ?_⟩
                      · refine ⟨fun e11 => ?_, fun e11 => ?_⟩
                        · refine ⟨fun e12 => ?_, fun e12 => ?_⟩
                          · refine ⟨fun e13 => ?_, fun e13 => ?_⟩
                            · refine ⟨fun e14 => ?_, fun e14 => ?_⟩
                              · refine ⟨fun e15 => ?_, fun e15 => ?_⟩
                                · refine ⟨fun e16 => ?_, fun e16 => ?_⟩
                                  · refine ⟨fun e17 => ?_, fun e17 => ?_⟩
                                    · refine ⟨fun e18 => ?_, fun e18 => ?_⟩
                                      · exact ⟨rfl, by unfold F_X11_sortHere; rw [if_neg e0, if_neg e1, if_pos e2, if_neg e3, if_neg e4, if_neg e5, if_neg e6, if_neg e7, if_neg e8, if_neg e9, if_neg e10, if_neg e11, if_neg e12, if_neg e13, if_neg e14, if_neg e15, if_neg e16, if_neg e17, if_neg e18]⟩
                                      · exact ⟨rfl, by unfold F_X11_sortHere; rw [if_neg e0, if_neg e1, if_pos e2, if_neg e3, if_neg e4, if_neg e5, if_neg e6, if_neg e7, if_neg e8, if_neg e9, if_neg e10, if_neg e11, if_neg e12, if_neg e13, if_neg e14, if_neg e15, if_neg e16, if_neg e17, if_pos e18]⟩
                                    · exact ⟨rfl, by unfold F_X11_sortHere; rw [if_neg e0, if_neg e1, if_pos e2, if_neg e3, if_neg e4, if_neg e5, if_neg e6, if_neg e7, if_neg e8, if_neg e9, if_neg e10, if_neg e11, if_neg e12, if_neg e13, if_neg e14, if_neg e15, if_neg e16, if_pos e17]⟩
                                  · exact ⟨rfl, by unfold F_X11_sortHere; rw [if_neg e0, if_neg e1, if_pos e2, if_neg e3, if_neg e4, if_neg e5, if_neg e6, if_neg e7, if_neg e8, if_neg e9, if_neg e10, if_neg e11, if_neg e12, if_neg e13, if_neg e14, if_neg e15, if_pos e16]⟩
                                · exact ⟨rfl, by unfold F_X11_sortHere; rw [if_neg e0, if_neg e1, if_pos e2, if_neg e3, if_neg e4, if_neg e5, if_neg e6, if_neg e7, if_neg e8, if_neg e9, if_neg e10, if_neg e11, if_neg e12, if_neg e13, if_neg e14, if_pos e15]⟩
                              · exact ⟨rfl, by unfold F_X11_sortHere; rw [if_neg e0, if_neg e1, if_pos e2, if_neg e3, if_neg e4, if_neg e5, if_neg e6, if_neg e7, if_neg e8, if_neg e9, if_neg e10, if_neg e11, if_neg e12, if_neg e13, if_pos e14]⟩
                            · exact ⟨rfl, by unfold F_X11_sortHere; rw [if_neg e0, if_neg e1, if_pos e2, if_neg e3, if_neg e4, if_neg e5, if_neg e6, if_neg e7, if_neg e8, if_neg e9, if_neg e10, if_neg e11, if_neg e12, if_pos e13]⟩
                          · exact ⟨rfl, by unfold F_X11_sortHere; rw [if_neg e0, if_neg e1, if_pos e2, if_neg e3, if_neg e4, if_neg e5, if_neg e6, if_neg e7, if_neg e8, if_neg e9, if_neg e10, if_neg e11, if_pos e12]⟩
                        · exact ⟨rfl, by unfold F_X11_sortHere; rw [if_neg e0, if_neg e1, if_pos e2, if_neg e3, if_neg e4, if_neg e5, if_neg e6, if_neg e7, if_neg e8, if_neg e9, if_neg e10, if_pos e11]⟩
                      · exact ⟨rfl, by unfold F_X11_sortHere; rw [if_neg e0, if_neg e1, if_pos e2, if_neg e3, if_neg e4, if_neg e5, if_neg e6, if_neg e7, if_neg e8, if_neg e9, if_pos e10]⟩
                    · exact ⟨rfl, by unfold F_X11_sortHere; rw [if_neg e0, if_neg e1, if_pos e2, if_neg e3, if_neg e4, if_neg e5, if_neg e6, if_neg e7, if_neg e8, if_pos e9]⟩
                  · exact ⟨rfl, by unfold F_X11_sortHere; rw [if_neg e0, if_neg e1, if_pos e2, if_neg e3, if_neg e4, if_neg e5, if_neg e6, if_neg e7, if_pos e8]⟩
                · exact ⟨rfl, by unfold F_X11_sortHere; rw [if_neg e0, if_neg e1, if_pos e2, if_neg e3, if_neg e4, if_neg e5, if_neg e6, if_pos e7]⟩
              · exact ⟨rfl, by unfold F_X11_sortHere; rw [if_neg e0, if_neg e1, if_pos e2, if_neg e3, if_neg e4, if_neg e5, if_pos e6]⟩
            · exact ⟨rfl, by unfold F_X11_sortHere; rw [if_neg e0, if_neg e1, if_pos e2, if_neg e3, if_neg e4, if_pos e5]⟩
          · exact ⟨rfl, by unfold F_X11_sortHere; rw [if_neg e0, if_neg e1, if_pos e2, if_neg e3, if_pos e4]⟩
      · exact ⟨rfl, by unfold F_X11_sortHere; rw [if_neg e0, if_neg e1, if_neg e2]⟩
    · exact ⟨rfl, by unfold F_X11_sortHere; rw [if_neg e0, if_pos e1]⟩
  · exact ⟨rfl, by unfold F_X11_sortHere; rw [if_pos e0]⟩
theorem p_X11_sortHere {s : ST} : RA s → q_met mX11_sortHere (qs layM s) [.ref 139] (fun σ r => R32 (F_X11_sortHere s) ∧ σ = qs layM s ∧ r = some (.int (Int32.ofInt (F_X11_sortHere s)))) := fun hA => q_met.mono ((w_X11_sortHere).1 hA) (by
  rintro _ _ ⟨s1, v1, rfl, h1, h2, rfl, rfl, rfl⟩
  exact ⟨h2, rfl, rfl⟩)
