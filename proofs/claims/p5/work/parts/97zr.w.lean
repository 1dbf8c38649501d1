/-! THE CLASS: the reader's tokens -/
def TK (s s' : ST) : Prop := ∀ c, c ≠ 46 → s'.1 c = s.1 c
theorem TK.rf {s : ST} : TK s s := fun _ _ => rfl
theorem TK.ui {s s' : ST} {x v : Int} (t : TK s s') : TK s (ui s' 46 x v) := fun c hc => (funext fun y => ui_cell hc).trans (t c hc)
theorem TK.tr {s s' s'' : ST} (t : TK s s') (u : TK s' s'') : TK s s'' := fun c hc => (u c hc).trans (t c hc)
def TPO (s : ST) : Prop := 0 ≤ s.1 46 4 ∧ s.1 46 4 ≤ 1600
def PT (s : ST) : Prop := TPO s ∧ (0 ≤ s.1 46 6 ∧ s.1 46 6 ≤ 1600) ∧ (-1 ≤ s.1 46 9 ∧ s.1 46 9 < 24)
theorem PT_pos {s : ST} {v : Int} (h : PT s) (hv : 0 ≤ v ∧ v ≤ 1600) : PT (ui s 46 4 v) := ⟨hv, h.2⟩
theorem PT_own {s : ST} {v : Int} (h : PT s) (hv : -1 ≤ v ∧ v < 24) : PT (ui s 46 9 v) := ⟨h.1, h.2.1, hv⟩
theorem sign_r (s : ST) (p : Int) : F_X7_signAt s p = -1 ∨ (0 ≤ p ∧ p < 1600 ∧ 0 ≤ F_X7_signAt s p ∧ F_X7_signAt s p ≤ 255) := by
  unfold F_X7_signAt
  split
  · exact Or.inl rfl
  · split
    · exact Or.inl rfl
    · split
      · exact Or.inl rfl
      · have := iand_le (x := s.1 1 p) (y := 255) (by omega) (by omega)
        exact Or.inr ⟨by omega, by omega, this⟩
theorem P_signX (s : ST) (p : Int) : P_X7_signAt s p := fun _ _ _ => by omega
section X7T
variable {s0 s : ST}
theorem x_X7_faultIs {p : Int} {Q : ST → Prop} (t : TK s0 s) (h : PT s) (hQ : ∀ s', TK s0 s' → PT s' → Q s') : C_X7_faultIs s p Q := by
  refine s_X7_faultIs ?_
  (repeat' (with_reducible first | refine ⟨?_, ?_⟩ | intro _))
  exact hQ _ t.ui.ui h
theorem x_X7_refuseToken {Q : ST → Prop} (t : TK s0 s) (h : PT s) (hQ : ∀ s', TK s0 s' → PT s' → Q s') : C_X7_refuseToken s Q := by
  have k14 : ∀ v, K_X7_refuseToken_14 s v Q := by
    intro v
    refine s_X7_refuseToken_14 ?_
    (repeat' (with_reducible first | refine ⟨?_, ?_⟩ | intro _))
    exact x_X7_faultIs t h hQ
  refine s_X7_refuseToken ?_
  (repeat' (with_reducible first | refine ⟨?_, ?_⟩ | intro _))
  all_goals exact k14 _
theorem x_X7_readWord {Q : ST → Prop} (t : TK s0 s) (h : PT s) (hQ : ∀ s', TK s0 s' → PT s' → Q s') : C_X7_readWord s Q := by
  have k88 : ∀ (n : Nat) (s1 : ST) (a1 : Int), 24 - a1 ≤ (n : Int) → 0 ≤ a1 → TK s0 s1 → PT s1 → K_X7_readWord_88 s1 a1 Q := by
    intro n
    induction n with
    | zero =>
      intro s1 a1 hn h1 t1 p1
      refine s_X7_readWord_88 ?_
      (repeat' (with_reducible first | refine ⟨?_, ?_⟩ | intro _))
      all_goals first | omega | exact hQ _ t1 p1
    | succ n ih =>
      intro s1 a1 hn h1 t1 p1
      refine s_X7_readWord_88 ?_
      (repeat' (with_reducible first | refine ⟨?_, ?_⟩ | intro _))
      all_goals first | omega | exact hQ _ t1 p1 | exact ih _ _ (by omega) (by omega) t1 p1 | exact hQ _ t1.ui (PT_own p1 (by omega))
  have k63 : ∀ (s1 : ST), TK s0 s1 → PT s1 → K_X7_readWord_63 s1 Q := by
    intro s1 t1 p1
    have ⟨⟨e1, e2⟩, ⟨e3, e4⟩, _⟩ := p1
    refine s_X7_readWord_63 ?_
    (repeat' (with_reducible first | refine ⟨?_, ?_⟩ | intro _))
    all_goals first | omega | exact k88 24 _ 0 (by omega) (by omega) t1.ui p1
  have k7 : ∀ (n : Nat) (s1 : ST) (a1 : Int), 1601 - a1 ≤ (n : Int) → 0 ≤ a1 → TK s0 s1 → PT s1 → K_X7_readWord_7 s1 a1 Q := by
    intro n
    induction n with
    | zero =>
      intro s1 a1 hn h1 t1 p1
      refine s_X7_readWord_7 ?_
      (repeat' (with_reducible first | refine ⟨?_, ?_⟩ | intro _))
      all_goals first | omega | exact k63 _ t1 p1
    | succ n ih =>
      intro s1 a1 hn h1 t1 p1
      have ⟨⟨e1, e2⟩, _⟩ := p1
      have hs := sign_r s1 (s1.1 46 4)
      refine s_X7_readWord_7 ?_
      (repeat' (with_reducible first | refine ⟨?_, ?_⟩ | intro _))
      all_goals first | omega | exact k63 _ t1 p1 | skip
      exact ih _ _ (by omega) (by omega) t1.ui (PT_pos p1 (by omega))
  refine s_X7_readWord ?_
  (repeat' (with_reducible first | refine ⟨?_, ?_⟩ | intro _))
  exact k7 1601 _ 0 (by omega) (by omega) t h
theorem x_X7_readNumber {Q : ST → Prop} (t : TK s0 s) (h : PT s) (hQ : ∀ s', TK s0 s' → PT s' → Q s') : C_X7_readNumber s Q := by
  have k99 : ∀ (s1 : ST) (t0 : Int), TK s0 s1 → PT s1 → K_X7_readNumber_99 s1 t0 Q := by
    intro s1 t0 t1 p1
    refine s_X7_readNumber_99 ?_
    (repeat' (with_reducible first | refine ⟨?_, ?_⟩ | intro _))
    all_goals exact hQ _ t1.ui p1
  have k98 : ∀ (s1 : ST), TK s0 s1 → PT s1 → K_X7_readNumber_98 s1 Q := by
    intro s1 t1 p1
    refine s_X7_readNumber_98 ?_
    (repeat' (with_reducible first | refine ⟨?_, ?_⟩ | intro _))
    exact k99 _ _ t1 p1
  have k67 : ∀ (s1 : ST), TK s0 s1 → PT s1 → K_X7_readNumber_67 s1 Q := by
    intro s1 t1 p1
    have ⟨⟨e1, e2⟩, ⟨e3, e4⟩, _⟩ := p1
    refine s_X7_readNumber_67 ?_
    (repeat' (with_reducible first | refine ⟨?_, ?_⟩ | intro _))
    all_goals first | omega | exact k98 _ t1 p1 | exact k99 _ _ t1 p1
  have k7 : ∀ (n : Nat) (s1 : ST) (a1 : Int), 1601 - a1 ≤ (n : Int) → 0 ≤ a1 → TK s0 s1 → PT s1 → K_X7_readNumber_7 s1 a1 Q := by
    intro n
    induction n with
    | zero =>
      intro s1 a1 hn h1 t1 p1
      refine s_X7_readNumber_7 ?_
      (repeat' (with_reducible first | refine ⟨?_, ?_⟩ | intro _))
      all_goals first | omega | exact k67 _ t1 p1
    | succ n ih =>
      intro s1 a1 hn h1 t1 p1
      have ⟨⟨e1, e2⟩, _⟩ := p1
      have hs := sign_r s1 (s1.1 46 4)
      refine s_X7_readNumber_7 ?_
      (repeat' (with_reducible first | refine ⟨?_, ?_⟩ | intro _))
      all_goals first | omega | exact k67 _ t1 p1 | skip
      exact ih _ _ (by omega) (by omega) t1.ui.ui (PT_pos (s := ui s1 46 8 _) p1 (by omega))
  refine s_X7_readNumber ?_
  (repeat' (with_reducible first | refine ⟨?_, ?_⟩ | intro _))
  exact k7 1601 _ 0 (by omega) (by omega) t.ui h
theorem x_X7_readToken {Q : ST → Prop} (t : TK s0 s) (h : TPO s) (hQ : ∀ s', TK s0 s' → PT s' → Q s') : C_X7_readToken s Q := by
  have k39 : ∀ (s1 : ST), TK s0 s1 → TPO s1 → K_X7_readToken_39 s1 Q := by
    intro s1 t1 p1
    have ⟨e1, e2⟩ := p1
    have hs := sign_r (ui (ui s1 46 6 (s1.1 46 4)) 46 9 (-1)) (s1.1 46 4)
    have p2 : PT (ui (ui s1 46 6 (s1.1 46 4)) 46 9 (-1)) := ⟨p1, p1, by rw [ui_same]; omega, by rw [ui_same]; omega⟩
    have t2 : TK s0 (ui (ui s1 46 6 (s1.1 46 4)) 46 9 (-1)) := t1.ui.ui
    refine s_X7_readToken_39 ?_
    (repeat' (with_reducible first | refine ⟨?_, ?_⟩ | intro _))
    all_goals generalize ui (ui s1 46 6 (s1.1 46 4)) 46 9 (-1) = s2 at *
    all_goals first | omega | exact x_X7_readNumber t2 p2 hQ | exact x_X7_readWord t2 p2 hQ | exact hQ _ t2.ui p2 | exact hQ _ t2.ui.ui (PT_pos (s := ui s2 46 5 _) p2 (by omega))
  have k2 : ∀ (n : Nat) (s1 : ST) (a1 : Int), 1601 - a1 ≤ (n : Int) → 0 ≤ a1 → TK s0 s1 → TPO s1 → K_X7_readToken_2 s1 a1 Q := by
    intro n
    induction n with
    | zero =>
      intro s1 a1 hn h1 t1 p1
      refine s_X7_readToken_2 ?_
      (repeat' (with_reducible first | refine ⟨?_, ?_⟩ | intro _))
      all_goals first | omega | exact k39 _ t1 p1
    | succ n ih =>
      intro s1 a1 hn h1 t1 p1
      have ⟨e1, e2⟩ := p1
      have hs := sign_r s1 (s1.1 46 4)
      refine s_X7_readToken_2 ?_
      (repeat' (with_reducible first | refine ⟨?_, ?_⟩ | intro _))
      all_goals first | omega | exact k39 _ t1 p1 | skip
      exact ih _ _ (by omega) (by omega) t1.ui ⟨by rw [ui_same]; omega, by rw [ui_same]; omega⟩
  refine s_X7_readToken ?_
  (repeat' (with_reducible first | refine ⟨?_, ?_⟩ | intro _))
  exact k2 1601 _ 0 (by omega) (by omega) t h
theorem x_X7_readIn {Q : ST → Int → Prop} (t : TK s0 s) (h : PT s) (hQ : ∀ s' v, TK s0 s' → PT s' → Q s' v) : C_X7_readIn s Q := by
  refine s_X7_readIn ?_
  (repeat' (with_reducible first | refine ⟨?_, ?_⟩ | intro _))
  · exact x_X7_readToken t h.1 fun s2 t2 p2 => hQ _ _ t2 p2
  · exact x_X7_refuseToken t h fun s2 t2 p2 => hQ _ _ t2 p2
theorem x_X7_readSign {Q : ST → Prop} (t : TK s0 s) (h : PT s) (hQ : ∀ s', TK s0 s' → PT s' → Q s') : C_X7_readSign s Q := by
  refine s_X7_readSign ?_
  (repeat' (with_reducible first | refine ⟨?_, ?_⟩ | intro _))
  · exact x_X7_refuseToken t h hQ
  · exact x_X7_readToken t h.1 hQ
  · exact hQ _ t h
end X7T
