/-! READING ALIKE: a DEF, side by side -/
def DFX (s0 x : ST) (n : Int) (nD : Nat) : Prop := (KZ s0 x ∧ PT x ∧ x.1 46 0 = 0) ∧ (x.1 18 1 = n ∧ (0 ≤ n ∧ n ≤ 40)) ∧ (x.1 18 0 = nD ∧ nD ≤ 8) ∧ (0 ≤ x.1 18 2 ∧ x.1 18 2 ≤ 20)
def DFM (x m : ST) (b n : Int) (nD : Nat) : Prop := OKR x m ∧ ((0 ≤ b ∧ b ≤ 1) ∧ m.1 139 29 = b ∧ m.1 142 b = n ∧ m.1 143 b = nD) ∧ x.1 18 2 = m.1 144 b ∧ WF m b ∧ TRB x m b n ∧ DFR x m b nD ∧ KDR x m b n 0
section DEFS
variable {s0 x m : ST} {b n : Int} {nD : Nat}
theorem x_expr_err {Q : ST → Prop} (h : x.1 46 0 ≠ 0) (hQ : Q x) : C_X7_readExpression x Q := by
  have k17 : K_X7_readExpression_17 x (-1) 0 0 Q := by
    refine s_X7_readExpression_17 ?_
    (repeat' (with_reducible first | refine ⟨?_, ?_⟩ | intro _))
    all_goals first | exact hQ | omega
  refine s_X7_readExpression ?_
  (repeat' (with_reducible first | refine ⟨?_, ?_⟩ | intro _))
  all_goals first | exact k17 | exact absurd (by assumption) h
theorem x_sign_err {Q : ST → Prop} (h : x.1 46 0 ≠ 0) (hQ : Q x) : C_X7_readSign x Q := by
  refine s_X7_readSign ?_
  (repeat' (with_reducible first | refine ⟨?_, ?_⟩ | intro _))
  all_goals first | exact hQ | exact absurd (by assumption) h
theorem e_53 {Q : ST → Prop} (h180 : x.1 18 0 = nD) (hD : nD ≤ 8) (hdup : (∃ d : Int, (0 ≤ d ∧ d < nD) ∧ x.2 19 d = x.2 46 7) → Q (FIS x 3)) (hno : (∀ d : Int, 0 ≤ d → d < nD → x.2 19 d ≠ x.2 46 7) → K_X7_readDef_99 x Q) : K_X7_readDef_53 x 0 Q := by
  have key : ∀ (j : Nat) (a : Int), (nD : Int) - a = (j : Int) → 0 ≤ a → (∀ d : Int, 0 ≤ d → d < a → x.2 19 d ≠ x.2 46 7) → K_X7_readDef_53 x a Q := by
    intro j
    induction j with
    | zero =>
      intro a hj h0 hn
      refine s_X7_readDef_53 ?_
      rw [h180]
      (repeat' (with_reducible first | refine ⟨?_, ?_⟩ | intro _))
      all_goals first | omega | exact hno (fun d d0 d1 => hn d d0 (by omega))
    | succ j ih =>
      intro a hj h0 hn
      refine s_X7_readDef_53 ?_
      rw [h180]
      refine fun _ _ => ⟨fun _ => by omega, fun _ => ⟨fun _ => by omega, fun _ => ⟨by omega, fun e => ⟨by unfold R32; omega, ih (a + 1) (by omega) (by omega) fun d d0 d1 => ?_⟩, fun e => x_fault (hdup ⟨a, by omega, e⟩)⟩⟩⟩
      by_cases c : d = a
      · rw [c]; exact e
      · exact hn d d0 (by omega)
  exact key nD 0 (by omega) (by omega) (fun d d0 d1 => by omega)
theorem r_54e {Q : ST → Prop} (h29 : m.1 139 29 = b) (hb : 0 ≤ b ∧ b ≤ 1) (h43 : m.1 143 b = nD) (h4 : m.1 139 4 ≠ 0) (hQ : Q m) : ∀ (j : Nat) (a : Int), (nD : Int) - a = (j : Int) → 0 ≤ a → nD ≤ 8 → K_X11_readDef_54 m a Q := by
  intro j
  induction j with
  | zero =>
    intro a hj h0 hD
    refine s_X11_readDef_54 ?_
    rw [h29, h43]
    (repeat' (with_reducible first | refine ⟨?_, ?_⟩ | intro _))
    all_goals first | omega | exact hQ | exact absurd (by assumption) h4
  | succ j ih =>
    intro a hj h0 hD
    refine s_X11_readDef_54 ?_
    rw [h29, h43]
    (repeat' (with_reducible first | refine ⟨?_, ?_⟩ | intro _))
    all_goals first | omega | exact ih _ (by omega) (by omega) hD | exact absurd (by assumption) h4
theorem r_54 {Q : ST → Prop} (h29 : m.1 139 29 = b) (hb : 0 ≤ b ∧ b ≤ 1) (h43 : m.1 143 b = nD) (hD : nD ≤ 8) (h4 : m.1 139 4 = 0) (h6 : x.1 46 6 = m.1 139 6) (hdup : (∃ d : Int, (0 ≤ d ∧ d < nD) ∧ m.2 157 (8 * b + d) = m.2 139 10) → ∀ m', md [(139, 4), (139, 5)] [] m m' → ERR (FIS x 3) m' → Q m') (hno : (∀ d : Int, 0 ≤ d → d < nD → m.2 157 (8 * b + d) ≠ m.2 139 10) → K_X11_readDef_54 m nD Q) : K_X11_readDef_54 m 0 Q := by
  have key : ∀ (j : Nat) (a : Int), (nD : Int) - a = (j : Int) → 0 ≤ a → (∀ d : Int, 0 ≤ d → d < a → m.2 157 (8 * b + d) ≠ m.2 139 10) → K_X11_readDef_54 m a Q := by
    intro j
    induction j with
    | zero =>
      intro a hj h0 hn
      rw [show a = (nD : Int) by omega]
      exact hno (fun d d0 d1 => hn d d0 (by omega))
    | succ j ih =>
      intro a hj h0 hn
      refine s_X11_readDef_54 ?_
      rw [h29, h43]
      refine fun _ _ => ⟨by omega, fun _ => by omega, fun _ => ⟨fun h => absurd h4 h, fun _ => ⟨by unfold R32; omega, by unfold R32; omega, by omega, fun e => ⟨by unfold R32; omega, ih (a + 1) (by omega) (by omega) fun d d0 d1 => ?_⟩, fun e => ?_⟩⟩⟩
      · by_cases c : d = a
        · rw [c]; exact e
        · exact hn d d0 (by omega)
      · refine m_fails (x := x) (by decide) h6 h4 fun m' mm er => ⟨by unfold R32; omega, ?_⟩
        exact r_54e ((mm.f 139 29 (by decide) (by decide)).trans h29) hb ((mm.c 143 (by decide) (by decide) b).trans h43) (fun h => er.1 (er.2.1.symm.trans h)) (hdup ⟨a, by omega, e⟩ m' mm er) j (a + 1) (by omega) (by omega) hD
  exact key nD 0 (by omega) (by omega) (fun d d0 d1 => by omega)
theorem def_tok {m : ST} (h : OKR x m) : (x.1 46 5 = 1 ∧ x.1 46 9 = 2) ↔ (m.1 139 8 = 3 ∧ m.2 139 10 = 6579558) := by
  obtain ⟨_, _, ⟨_, _, ht⟩, _⟩ := h
  have kd : ∀ j : Fin 24, Int64.ofNat (kw.getD j.val 0) = 6579558 ↔ j.val = 2 := by decide +kernel
  rcases ht with h | h | h | h | ⟨h1, h2, h3, h4⟩ | ⟨h1, k, hk, h9, h8, h10, h11⟩
  · exact ⟨fun a => by omega, fun a => by omega⟩
  · exact ⟨fun a => by omega, fun a => by omega⟩
  · exact ⟨fun a => by omega, fun a => by omega⟩
  · exact ⟨fun a => by omega, fun a => by omega⟩
  · exact ⟨fun a => by omega, fun a => by omega⟩
  · rw [h10]
    have := kd ⟨k, hk⟩
    exact ⟨fun a => ⟨h8, this.mpr (by show k = 2; omega)⟩, fun a => ⟨h1, by have := this.mp a.2; rw [h9]; show ((k : Nat) : Int) = 2; simp only at this; omega⟩⟩
end DEFS
