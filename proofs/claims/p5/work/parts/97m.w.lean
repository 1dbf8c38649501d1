/-! THE REFERENCE: goOn, misplaced, must -/
def NB (s : ST) : Prop := 0 ≤ s.1 139 7 - s.1 139 6 ∧ (0 ≤ s.1 139 9 ∧ s.1 139 9 ≤ 9999) ∧ (s.1 139 7 - s.1 139 6 = 0 → s.1 139 9 = 0) ∧ (s.1 139 7 - s.1 139 6 = 1 → s.1 139 9 ≤ 9) ∧ (s.1 139 7 - s.1 139 6 = 2 → s.1 139 9 ≤ 99) ∧ (s.1 139 7 - s.1 139 6 = 3 → s.1 139 9 ≤ 999)
theorem c_X11_goOn0 {s0 : ST} {Q : ST → Prop} (r1 : 0 ≤ s0.1 139 3 ∧ s0.1 139 3 ≤ 1600) (r3 : 0 ≤ s0.1 139 7 ∧ s0.1 139 7 ≤ s0.1 139 3) (hQ : ∀ s', md gF [] s0 s' → RDC s' → Q s') : C_X11_goOn s0 Q := by
  have k259 : ∀ (m : Nat) (s : ST), s.1 139 3 - s.1 139 7 = (m : Int) → md gF [] s0 s → RDC s → NB s → K_X11_goOn_259 s Q := by
    intro m
    induction m with
    | zero =>
      intro s hm m0 hr hn
      obtain ⟨r1, r2, r3⟩ := id hr
      obtain ⟨n1, n2, n3, n4, n5, n6⟩ := id hn
      have fin : ∀ v, Q (ui s 139 8 v) := fun v => hQ _ (by repeat' (first | exact md.rf | assumption | refine md.ui ?_ ?_ | refine md.uj ?_ ?_ | exact Or.inr (by decide) | exact Or.inl (by decide))) ⟨by rw [ui_ne (by decide)]; exact r1, by rw [ui_ne (by decide), ui_ne (by decide)]; exact r2, by rw [ui_ne (by decide), ui_ne (by decide)]; exact r3⟩
      have hsg : F_X11_sign s (s.1 139 7) = 0 := by unfold F_X11_sign; rw [if_pos (by omega)]
      refine s_X11_goOn_259 ?_
      rw [hsg]
      (repeat' (with_reducible first | refine ⟨?_, ?_⟩ | intro _))
      all_goals first | exact P_sign hr r3.1 | omega | exact fin _
    | succ m ih =>
      intro s hm m0 hr hn
      obtain ⟨r1, r2, r3⟩ := id hr
      obtain ⟨n1, n2, n3, n4, n5, n6⟩ := id hn
      have fin : ∀ v, Q (ui s 139 8 v) := fun v => hQ _ (by repeat' (first | exact md.rf | assumption | refine md.ui ?_ ?_ | refine md.uj ?_ ?_ | exact Or.inr (by decide) | exact Or.inl (by decide))) ⟨by rw [ui_ne (by decide)]; exact r1, by rw [ui_ne (by decide), ui_ne (by decide)]; exact r2, by rw [ui_ne (by decide), ui_ne (by decide)]; exact r3⟩
      refine s_X11_goOn_259 ?_
      generalize F_X11_sign s (s.1 139 7) = sg
      (repeat' (with_reducible first | refine ⟨?_, ?_⟩ | intro _))
      all_goals first | exact P_sign hr r3.1 | omega | exact fin _ | skip
      · have e3 : (ui s 139 7 (s.1 139 7 + 1)).1 139 3 = s.1 139 3 := ui_ne (by decide)
        have e6 : (ui s 139 7 (s.1 139 7 + 1)).1 139 6 = s.1 139 6 := ui_ne (by decide)
        have e7 : (ui s 139 7 (s.1 139 7 + 1)).1 139 7 = s.1 139 7 + 1 := ui_same
        have e9 : (ui s 139 7 (s.1 139 7 + 1)).1 139 9 = s.1 139 9 := ui_ne (by decide)
        refine ih _ (by rw [e3, e7]; omega) (by repeat' (first | exact md.rf | assumption | refine md.ui ?_ ?_ | refine md.uj ?_ ?_ | exact Or.inr (by decide) | exact Or.inl (by decide))) ⟨by rw [e3]; exact r1, by rw [e6, e3]; exact r2, by rw [e7, e3]; omega⟩ ?_
        unfold NB
        rw [e6, e7, e9]
        exact ⟨by omega, by omega, fun _ => by omega, fun _ => by omega, fun _ => by omega, fun _ => by omega⟩
      · have e3 : (ui (ui s 139 9 (10 * s.1 139 9 + sg - 48)) 139 7 (s.1 139 7 + 1)).1 139 3 = s.1 139 3 := by rw [ui_ne (by decide), ui_ne (by decide)]
        have e6 : (ui (ui s 139 9 (10 * s.1 139 9 + sg - 48)) 139 7 (s.1 139 7 + 1)).1 139 6 = s.1 139 6 := by rw [ui_ne (by decide), ui_ne (by decide)]
        have e7 : (ui (ui s 139 9 (10 * s.1 139 9 + sg - 48)) 139 7 (s.1 139 7 + 1)).1 139 7 = s.1 139 7 + 1 := ui_same
        have e9 : (ui (ui s 139 9 (10 * s.1 139 9 + sg - 48)) 139 7 (s.1 139 7 + 1)).1 139 9 = 10 * s.1 139 9 + sg - 48 := by rw [ui_ne (by decide), ui_same]
        refine ih _ (by rw [e3, e7]; omega) (by repeat' (first | exact md.rf | assumption | refine md.ui ?_ ?_ | refine md.uj ?_ ?_ | exact Or.inr (by decide) | exact Or.inl (by decide))) ⟨by rw [e3]; exact r1, by rw [e6, e3]; exact r2, by rw [e7, e3]; omega⟩ ?_
        unfold NB
        rw [e6, e7, e9]
        refine ⟨by omega, by omega, fun _ => by omega, fun _ => ?_, fun _ => ?_, fun _ => ?_⟩
        · have := n3 (by omega); omega
        · have := n4 (by omega); omega
        · have := n5 (by omega); omega
  have k199 : ∀ s, md gF [] s0 s → RDC s → K_X11_goOn_199 s Q := by
    intro s m0 hr
    obtain ⟨r1, r2, r3⟩ := id hr
    have fin : ∀ v, Q (ui s 139 8 v) := fun v => hQ _ (by repeat' (first | exact md.rf | assumption | refine md.ui ?_ ?_ | refine md.uj ?_ ?_ | exact Or.inr (by decide) | exact Or.inl (by decide))) ⟨by rw [ui_ne (by decide)]; exact r1, by rw [ui_ne (by decide), ui_ne (by decide)]; exact r2, by rw [ui_ne (by decide), ui_ne (by decide)]; exact r3⟩
    refine s_X11_goOn_199 ?_
    (repeat' (with_reducible first | refine ⟨?_, ?_⟩ | intro _))
    all_goals first | omega | exact fin _ | skip
    refine c_X11_isKept fun v hv => ?_
    (repeat' (with_reducible first | refine ⟨?_, ?_⟩ | intro _))
    all_goals first | omega | exact fin _
  have k156 : ∀ (m : Nat) (s : ST) (a : Int), s.1 139 7 - a ≤ (m : Int) → 0 ≤ a → md gF [] s0 s → RDC s → K_X11_goOn_156 s a Q := by
    intro m
    induction m with
    | zero =>
      intro s a hm a0 m0 hr
      have := hr.1
      refine s_X11_goOn_156 ?_
      (repeat' (with_reducible first | refine ⟨?_, ?_⟩ | intro _))
      all_goals first | omega | exact k199 s m0 hr
    | succ m ih =>
      intro s a hm a0 m0 hr
      obtain ⟨r1, r2, r3⟩ := id hr
      refine s_X11_goOn_156 ?_
      (repeat' (with_reducible first | refine ⟨?_, ?_⟩ | intro _))
      all_goals first | exact P_sign hr a0 | omega | exact k199 s m0 hr | skip
      exact ih _ _ (by show s.1 139 7 - (a + 1) ≤ _; omega) (by omega) (by repeat' (first | exact md.rf | assumption | refine md.ui ?_ ?_ | refine md.uj ?_ ?_ | exact Or.inr (by decide) | exact Or.inl (by decide))) hr
  have k119 : ∀ (m : Nat) (s : ST), s.1 139 3 - s.1 139 7 = (m : Int) → md gF [] s0 s → RDC s → K_X11_goOn_119 s Q := by
    intro m
    induction m with
    | zero =>
      intro s hm m0 hr
      obtain ⟨r1, r2, r3⟩ := id hr
      have hsg : F_X11_sign s (s.1 139 7) = 0 := by unfold F_X11_sign; rw [if_pos (by omega)]
      refine s_X11_goOn_119 ?_
      rw [hsg]
      (repeat' (with_reducible first | refine ⟨?_, ?_⟩ | intro _))
      all_goals first | exact P_sign hr r3.1 | omega | skip
      exact k156 1600 _ _ (by show s.1 139 7 - s.1 139 6 ≤ 1600; omega) (by omega) (by repeat' (first | exact md.rf | assumption | refine md.ui ?_ ?_ | refine md.uj ?_ ?_ | exact Or.inr (by decide) | exact Or.inl (by decide))) hr
    | succ m ih =>
      intro s hm m0 hr
      obtain ⟨r1, r2, r3⟩ := id hr
      refine s_X11_goOn_119 ?_
      generalize F_X11_sign s (s.1 139 7) = sg
      (repeat' (with_reducible first | refine ⟨?_, ?_⟩ | intro _))
      all_goals first | exact P_sign hr r3.1 | omega | skip
      · exact k156 1600 _ _ (by show s.1 139 7 - s.1 139 6 ≤ 1600; omega) (by omega) (by repeat' (first | exact md.rf | assumption | refine md.ui ?_ ?_ | refine md.uj ?_ ?_ | exact Or.inr (by decide) | exact Or.inl (by decide))) hr
      · have e3 : (ui s 139 7 (s.1 139 7 + 1)).1 139 3 = s.1 139 3 := ui_ne (by decide)
        have e6 : (ui s 139 7 (s.1 139 7 + 1)).1 139 6 = s.1 139 6 := ui_ne (by decide)
        have e7 : (ui s 139 7 (s.1 139 7 + 1)).1 139 7 = s.1 139 7 + 1 := ui_same
        exact ih _ (by rw [e3, e7]; omega) (by repeat' (first | exact md.rf | assumption | refine md.ui ?_ ?_ | refine md.uj ?_ ?_ | exact Or.inr (by decide) | exact Or.inl (by decide))) ⟨by rw [e3]; exact r1, by rw [e6, e3]; exact r2, by rw [e7, e3]; omega⟩
  have k58 : ∀ s, md gF [] s0 s → RDC s → K_X11_goOn_58 s Q := by
    intro s m0 hr
    obtain ⟨r1, r2, r3⟩ := id hr
    refine s_X11_goOn_58 ?_
    generalize F_X11_sign s (s.1 139 6) = sg
    (repeat' (with_reducible first | refine ⟨?_, ?_⟩ | intro _))
    all_goals first | exact P_sign hr r2.1 | omega | skip
    · refine hQ _ (by repeat' (first | exact md.rf | assumption | refine md.ui ?_ ?_ | refine md.uj ?_ ?_ | exact Or.inr (by decide) | exact Or.inl (by decide))) ⟨?_, ?_, ?_⟩
      · rw [ui_ne (by decide), ui_ne (by decide)]; exact r1
      · rw [ui_ne (by decide), ui_ne (by decide), ui_ne (by decide), ui_ne (by decide)]; exact r2
      · rw [ui_ne (by decide), ui_same, ui_ne (by decide), ui_ne (by decide)]; omega
    · refine hQ _ (by repeat' (first | exact md.rf | assumption | refine md.ui ?_ ?_ | refine md.uj ?_ ?_ | exact Or.inr (by decide) | exact Or.inl (by decide))) ⟨?_, ?_, ?_⟩
      · rw [ui_ne (by decide), ui_ne (by decide)]; exact r1
      · rw [ui_ne (by decide), ui_ne (by decide), ui_ne (by decide), ui_ne (by decide)]; exact r2
      · rw [ui_ne (by decide), ui_same, ui_ne (by decide), ui_ne (by decide)]; omega
    · have e3 : (ui (ui (ui s 139 7 (s.1 139 6 + 1)) 139 9 0) 139 7 (s.1 139 6)).1 139 3 = s.1 139 3 := by rw [ui_ne (by decide), ui_ne (by decide), ui_ne (by decide)]
      have e6 : (ui (ui (ui s 139 7 (s.1 139 6 + 1)) 139 9 0) 139 7 (s.1 139 6)).1 139 6 = s.1 139 6 := by rw [ui_ne (by decide), ui_ne (by decide), ui_ne (by decide)]
      have e7 : (ui (ui (ui s 139 7 (s.1 139 6 + 1)) 139 9 0) 139 7 (s.1 139 6)).1 139 7 = s.1 139 6 := ui_same
      have e9 : (ui (ui (ui s 139 7 (s.1 139 6 + 1)) 139 9 0) 139 7 (s.1 139 6)).1 139 9 = 0 := by rw [ui_ne (by decide), ui_same]
      refine k259 (s.1 139 3 - s.1 139 6).toNat _ (by rw [e3, e7]; omega) (by repeat' (first | exact md.rf | assumption | refine md.ui ?_ ?_ | refine md.uj ?_ ?_ | exact Or.inr (by decide) | exact Or.inl (by decide))) ⟨by rw [e3]; exact r1, by rw [e6, e3]; exact r2, by rw [e7, e3]; omega⟩ ?_
      unfold NB
      rw [e6, e7, e9]
      exact ⟨by omega, by omega, fun _ => by omega, fun _ => by omega, fun _ => by omega, fun _ => by omega⟩
    · have e3 : (ui s 139 7 (s.1 139 6 + 1)).1 139 3 = s.1 139 3 := ui_ne (by decide)
      have e6 : (ui s 139 7 (s.1 139 6 + 1)).1 139 6 = s.1 139 6 := ui_ne (by decide)
      have e7 : (ui s 139 7 (s.1 139 6 + 1)).1 139 7 = s.1 139 6 + 1 := ui_same
      exact k119 (s.1 139 3 - (s.1 139 6 + 1)).toNat _ (by rw [e3, e7]; omega) (by repeat' (first | exact md.rf | assumption | refine md.ui ?_ ?_ | refine md.uj ?_ ?_ | exact Or.inr (by decide) | exact Or.inl (by decide))) ⟨by rw [e3]; exact r1, by rw [e6, e3]; exact r2, by rw [e7, e3]; omega⟩
    · refine hQ _ (by repeat' (first | exact md.rf | assumption | refine md.ui ?_ ?_ | refine md.uj ?_ ?_ | exact Or.inr (by decide) | exact Or.inl (by decide))) ⟨?_, ?_, ?_⟩
      · rw [ui_ne (by decide), ui_ne (by decide), ui_ne (by decide), ui_ne (by decide)]; exact r1
      · rw [ui_ne (by decide), ui_same, ui_ne (by decide), ui_ne (by decide), ui_ne (by decide), ui_ne (by decide)]; omega
      · rw [ui_same, ui_ne (by decide), ui_ne (by decide), ui_ne (by decide), ui_ne (by decide)]; omega
  have k8 : ∀ (m : Nat) (s : ST), s.1 139 3 - s.1 139 6 = (m : Int) → md gF [] s0 s → RDC s → K_X11_goOn_8 s Q := by
    intro m
    induction m with
    | zero =>
      intro s hm m0 hr
      refine s_X11_goOn_8 ?_
      (repeat' (with_reducible first | refine ⟨?_, ?_⟩ | intro _))
      all_goals first | exact k58 s m0 hr | omega
    | succ m ih =>
      intro s hm m0 hr
      obtain ⟨r1, r2, r3⟩ := id hr
      have e3 : (ui s 139 6 (s.1 139 6 + 1)).1 139 3 = s.1 139 3 := ui_ne (by decide)
      have e6 : (ui s 139 6 (s.1 139 6 + 1)).1 139 6 = s.1 139 6 + 1 := ui_same
      have e7 : (ui s 139 6 (s.1 139 6 + 1)).1 139 7 = s.1 139 7 := ui_ne (by decide)
      refine s_X11_goOn_8 ?_
      (repeat' (with_reducible first | refine ⟨?_, ?_⟩ | intro _))
      all_goals first | exact k58 s m0 hr | exact P_sign hr r2.1 | omega | skip
      all_goals exact ih _ (by rw [e3, e6]; omega) (by repeat' (first | exact md.rf | assumption | refine md.ui ?_ ?_ | refine md.uj ?_ ?_ | exact Or.inr (by decide) | exact Or.inl (by decide))) ⟨by rw [e3]; exact r1, by rw [e6, e3]; omega, by rw [e7, e3]; exact r3⟩
  have e3 : (ui s0 139 6 (s0.1 139 7)).1 139 3 = s0.1 139 3 := ui_ne (by decide)
  have e6 : (ui s0 139 6 (s0.1 139 7)).1 139 6 = s0.1 139 7 := ui_same
  have e7 : (ui s0 139 6 (s0.1 139 7)).1 139 7 = s0.1 139 7 := ui_ne (by decide)
  exact s_X11_goOn fun _ => k8 (s0.1 139 3 - s0.1 139 7).toNat _ (by rw [e3, e6]; omega) (by repeat' (first | exact md.rf | assumption | refine md.ui ?_ ?_ | refine md.uj ?_ ?_ | exact Or.inr (by decide) | exact Or.inl (by decide))) ⟨by rw [e3]; exact r1, by rw [e6, e3]; exact r3, by rw [e7, e3]; exact r3⟩
theorem c_X11_goOn {s0 : ST} {Q : ST → Prop} (hc : RDC s0) (hQ : ∀ s', md gF [] s0 s' → RDC s' → Q s') : C_X11_goOn s0 Q := c_X11_goOn0 hc.1 hc.2.2 hQ
theorem c_X11_fails {s : ST} {p q : Int} {Q : ST → Prop} (hp : p ≠ 0) (hQ : ∀ s', md [(139, 4), (139, 5)] [] s s' → s'.1 139 4 ≠ 0 → Q s') : C_X11_fails s p q Q := by
  refine s_X11_fails ?_
  (repeat' (with_reducible first | refine ⟨?_, ?_⟩ | intro _))
  · exact hQ _ (by repeat' (first | exact md.rf | assumption | refine md.ui ?_ ?_ | refine md.uj ?_ ?_ | exact Or.inr (by decide) | exact Or.inl (by decide))) (by rw [ui_ne (by decide), ui_same]; exact hp)
  · exact hQ _ md.rf (by omega)
theorem c_X11_misplaced {s : ST} {Q : ST → Prop} (hQ : ∀ s', md [(139, 4), (139, 5)] [] s s' → s'.1 139 4 ≠ 0 → Q s') : C_X11_misplaced s Q := by
  have k : ∀ t, t ≠ 0 → K_X11_misplaced_14 s t Q := fun t ht => s_X11_misplaced_14 fun _ _ => c_X11_fails ht hQ
  refine s_X11_misplaced ?_
  (repeat' (with_reducible first | refine ⟨?_, ?_⟩ | intro _))
  all_goals exact k _ (by decide)
def mF : List (Nat × Int) := (139, 4) :: (139, 5) :: gF
theorem RDC.keep {s s' : ST} {fs : List (Nat × Int)} {cs : List Nat} (h : RDC s) (hm : md fs cs s s') (h1 : (fs.all fun q => decide (q ∉ [((139 : Nat), (3 : Int)), (139, 6), (139, 7)])) = true) (h2 : (cs.all fun a => decide (a ≠ 139)) = true) : RDC s' := by
  have k : ∀ x : Int, x = 3 ∨ x = 6 ∨ x = 7 → s'.1 139 x = s.1 139 x := fun x hx => (hm 139 x (fun q => by
    have := of_decide_eq_true (List.all_eq_true.mp h1 _ q)
    rcases hx with h | h | h <;> rw [h] at this <;> exact this (by decide)) (fun q => by
    have := of_decide_eq_true (List.all_eq_true.mp h2 _ q)
    exact this rfl)).1
  unfold RDC
  rw [k 3 (Or.inl rfl), k 6 (Or.inr (Or.inl rfl)), k 7 (Or.inr (Or.inr rfl))]
  exact h
theorem c_X11_must {s : ST} {p : Int} {Q : ST → Prop} (hc : RDC s) (hQ : ∀ s', md mF [] s s' → RDC s' → (s.1 139 4 ≠ 0 → s'.1 139 4 ≠ 0) → Q s') : C_X11_must s p Q := by
  refine s_X11_must ?_
  (repeat' (with_reducible first | refine ⟨?_, ?_⟩ | intro _))
  · exact c_X11_misplaced fun s' m' h' => hQ s' (m'.mono (by decide) (by decide)) (hc.keep m' (by decide) (by decide)) (fun _ => h')
  · exact c_X11_goOn hc fun s' m' r' => hQ s' (m'.mono (by decide) (by decide)) r' (fun h => by rw [m'.f 139 4 (by decide) (by decide)]; exact h)
  · exact hQ s md.rf hc id
