/-! READING ALIKE: the reference's program, from its start; its end -/
section RPROG
variable {s0 : ST}
theorem r_start {Q : ST → Int → Prop} (hb : 0 ≤ s0.1 139 28 ∧ s0.1 139 28 ≤ 1) (h2 : 0 ≤ s0.1 139 2 ∧ s0.1 139 2 ≤ 1600)
    (hS : ∀ s1 s2, md pF0 pC0 s0 s1 → (∀ x, 0 ≤ x → x < 6 → x ≠ 1 - s0.1 139 28 → WX s0 x s1 x) → s1.1 139 2 = 0 → s1.1 139 29 = 1 - s0.1 139 28 → RM (1 - s0.1 139 28) s1 s2 → s2.1 139 3 = s0.1 139 2 → s2.1 139 4 = 0 → s2.1 139 5 = -1 → s2.1 139 7 = 0 → s2.1 142 (1 - s0.1 139 28) = 0 → s2.1 143 (1 - s0.1 139 28) = 0 → s2.1 144 (1 - s0.1 139 28) = 0 → (∀ i, 0 ≤ i → i < s0.1 139 2 → s2.1 141 i = i8 (s0.1 140 i)) → C_X11_goOn s2 (fun s3 => K_X11_program_78 s3 Q)) : C_X11_program s0 Q := by
  have k20 : ∀ (k : Nat) (s : ST) (a : Int), s0.1 139 2 - a = (k : Int) → 0 ≤ a → md pF0 [141] s0 s → s.1 139 3 = s0.1 139 2 → s.1 139 28 = s0.1 139 28 → s.1 139 4 = 0 → s.1 139 5 = -1 → (∀ i, 0 ≤ i → i < a → s.1 141 i = i8 (s0.1 140 i)) → K_X11_program_20 s a Q := by
    intro k
    induction k with
    | zero =>
      intro s a hk a0 m0 e3 e28 e4 e5 hB
      refine s_X11_program_20 ?_
      rw [e3, e28]
      (repeat' (with_reducible first | refine ⟨?_, ?_⟩ | intro _))
      all_goals first | omega | skip
      refine s_X11_clearBank ?_
      (repeat' (with_reducible first | refine ⟨?_, ?_⟩ | intro _))
      all_goals first | omega | skip
      have m1 : md [(139, 2), (139, 7), (139, 29)] [] s (ui (ui (ui s 139 2 0) 139 7 0) 139 29 (1 - s0.1 139 28)) := (by repeat' (first | exact md.rf | assumption | refine md.ui ?_ ?_ | refine md.uj ?_ ?_ | exact Or.inr (by decide) | exact Or.inl (by decide)))
      have m2 : md [] [142, 143, 144] (ui (ui (ui s 139 2 0) 139 7 0) 139 29 (1 - s0.1 139 28)) (ui (ui (ui (ui (ui (ui s 139 2 0) 139 7 0) 139 29 (1 - s0.1 139 28)) 142 (1 - s0.1 139 28) 0) 143 (1 - s0.1 139 28) 0) 144 (1 - s0.1 139 28) 0) := (by repeat' (first | exact md.rf | assumption | refine md.ui ?_ ?_ | refine md.uj ?_ ?_ | exact Or.inr (by decide) | exact Or.inl (by decide)))
      have r2 : RM (1 - s0.1 139 28) (ui (ui (ui s 139 2 0) 139 7 0) 139 29 (1 - s0.1 139 28)) (ui (ui (ui (ui (ui (ui s 139 2 0) 139 7 0) 139 29 (1 - s0.1 139 28)) 142 (1 - s0.1 139 28) 0) 143 (1 - s0.1 139 28) 0) 144 (1 - s0.1 139 28) 0) := ((RM.rf.ui (by unfold RW; omega)).ui (by unfold RW; omega)).ui (by unfold RW; omega)
      have g2 : (ui (ui (ui s 139 2 0) 139 7 0) 139 29 (1 - s0.1 139 28)).1 139 2 = 0 := by rw [ui_ne (by decide), ui_ne (by decide), ui_same]
      have g7 : (ui (ui (ui s 139 2 0) 139 7 0) 139 29 (1 - s0.1 139 28)).1 139 7 = 0 := by rw [ui_ne (by decide), ui_same]
      have g29 : (ui (ui (ui s 139 2 0) 139 7 0) 139 29 (1 - s0.1 139 28)).1 139 29 = 1 - s0.1 139 28 := ui_same
      have g42 : (ui (ui (ui (ui (ui (ui s 139 2 0) 139 7 0) 139 29 (1 - s0.1 139 28)) 142 (1 - s0.1 139 28) 0) 143 (1 - s0.1 139 28) 0) 144 (1 - s0.1 139 28) 0).1 142 (1 - s0.1 139 28) = 0 := by rw [ui_cell (by decide), ui_cell (by decide), ui_same]
      have g43 : (ui (ui (ui (ui (ui (ui s 139 2 0) 139 7 0) 139 29 (1 - s0.1 139 28)) 142 (1 - s0.1 139 28) 0) 143 (1 - s0.1 139 28) 0) 144 (1 - s0.1 139 28) 0).1 143 (1 - s0.1 139 28) = 0 := by rw [ui_cell (by decide), ui_same]
      have g44 : (ui (ui (ui (ui (ui (ui s 139 2 0) 139 7 0) 139 29 (1 - s0.1 139 28)) 142 (1 - s0.1 139 28) 0) 143 (1 - s0.1 139 28) 0) 144 (1 - s0.1 139 28) 0).1 144 (1 - s0.1 139 28) = 0 := ui_same
      generalize ui (ui (ui (ui (ui (ui s 139 2 0) 139 7 0) 139 29 (1 - s0.1 139 28)) 142 (1 - s0.1 139 28) 0) 143 (1 - s0.1 139 28) 0) 144 (1 - s0.1 139 28) 0 = s2 at *
      generalize ui (ui (ui s 139 2 0) 139 7 0) 139 29 (1 - s0.1 139 28) = s1 at *
      refine hS s1 s2 ((m0.mono (by decide) (by decide)).tr (m1.mono (by decide) (by decide))) (fun x x0 x1 hx => (WX.md m0 (by decide) (by decide)).tr (WX.md m1 (by decide) (by decide))) g2 g29 r2 ?_ ?_ ?_ ?_ g42 g43 g44 (fun i i0 i1 => ?_)
      · rw [m2.f 139 3 (by decide) (by decide), m1.f 139 3 (by decide) (by decide)]; exact e3
      · rw [m2.f 139 4 (by decide) (by decide), m1.f 139 4 (by decide) (by decide)]; exact e4
      · rw [m2.f 139 5 (by decide) (by decide), m1.f 139 5 (by decide) (by decide)]; exact e5
      · rw [m2.f 139 7 (by decide) (by decide)]; exact g7
      · rw [m2.c 141 (by decide) (by decide), m1.c 141 (by decide) (by decide)]; exact hB i i0 (by omega)
    | succ k ih =>
      intro s a hk a0 m0 e3 e28 e4 e5 hB
      have e40 : s.1 140 a = s0.1 140 a := m0.c 140 (by decide) (by decide) a
      refine s_X11_program_20 ?_
      rw [e3]
      (repeat' (with_reducible first | refine ⟨?_, ?_⟩ | intro _))
      all_goals first | omega | skip
      have m1 : md [] [141] s (ui s 141 a (i8 (s.1 140 a))) := (by repeat' (first | exact md.rf | assumption | refine md.ui ?_ ?_ | refine md.uj ?_ ?_ | exact Or.inr (by decide) | exact Or.inl (by decide)))
      refine ih _ (a + 1) (by omega) (by omega) (m0.tr (m1.mono (by decide) (by decide))) ?_ ?_ ?_ ?_ (fun i i0 i1 => ?_)
      · rw [ui_cell (by decide)]; exact e3
      · rw [ui_cell (by decide)]; exact e28
      · rw [ui_cell (by decide)]; exact e4
      · rw [ui_cell (by decide)]; exact e5
      · by_cases c : i = a
        · rw [c, ui_same, e40]
        · rw [ui_ne c]; exact hB i i0 (by omega)
  refine s_X11_program fun _ => ?_
  have m1 : md pF0 [141] s0 (ui (ui (ui s0 139 4 0) 139 5 (-1)) 139 3 (s0.1 139 2)) := (by repeat' (first | exact md.rf | assumption | refine md.ui ?_ ?_ | refine md.uj ?_ ?_ | exact Or.inr (by decide) | exact Or.inl (by decide)))
  refine k20 (s0.1 139 2).toNat _ 0 (by omega) (by omega) m1 ui_same ?_ ?_ ?_ (fun i i0 i1 => by omega)
  · rw [ui_ne (by decide), ui_ne (by decide), ui_ne (by decide)]
  · rw [ui_ne (by decide), ui_ne (by decide), ui_same]
  · rw [ui_ne (by decide), ui_same]
theorem r_99e {s : ST} {Q : ST → Int → Prop} (h4 : s.1 139 4 ≠ 0) (hQ : Q s (-1)) : K_X11_program_99 s Q := by
  have k129 : K_X11_program_129 s Q := by
    refine s_X11_program_129 ?_
    (repeat' (with_reducible first | refine ⟨?_, ?_⟩ | intro _))
    all_goals first | exact hQ | exact absurd (by assumption) h4
  refine s_X11_program_99 ?_
  (repeat' (with_reducible first | refine ⟨?_, ?_⟩ | intro _))
  all_goals first | exact k129 | exact absurd (by assumption) h4 | (exfalso; omega)
theorem r_148 {Q : ST → Int → Prop} : ∀ (k : Nat) (s : ST) (a : Int), 3 - a = (k : Int) → 0 ≤ a → (0 ≤ s.1 139 28 ∧ s.1 139 28 ≤ 1) → (∀ i, 0 ≤ i → i < a → s.1 203 i = 0) → (∀ s', md [(139, 92), (139, 49), (139, 62), (139, 63)] [176, 203] s s' → TR s' → s'.1 139 92 = 0 → s'.1 139 49 = -1 → s'.1 139 62 = 0 → s'.1 139 63 = 0 → (∀ k, 0 ≤ k → k < 3 → s'.1 203 k = 0) → Q s' (s.1 142 (s.1 139 28))) → K_X11_program_148 s a Q := by
  intro k
  induction k with
  | zero =>
    intro s a hk a0 h28 hx hQ
    refine s_X11_program_148 ?_
    (repeat' (with_reducible first | refine ⟨?_, ?_⟩ | intro _))
    all_goals first | omega | skip
    refine c_X11_begin fun s1 m1 tr e92 e49 e62 e63 => ?_
    have f28 := m1.f 139 28 (by decide) (by decide)
    rw [f28]
    (repeat' (with_reducible first | refine ⟨?_, ?_⟩ | intro _))
    all_goals first | omega | skip
    rw [m1.c 142 (by decide) (by decide)]
    refine hQ s1 (m1.mono (by decide) (by decide)) tr e92 e49 e62 e63 (fun i i0 i1 => ?_)
    rw [m1.c 203 (by decide) (by decide)]; exact hx i i0 (by omega)
  | succ k ih =>
    intro s a hk a0 h28 hx hQ
    refine s_X11_program_148 ?_
    (repeat' (with_reducible first | refine ⟨?_, ?_⟩ | intro _))
    all_goals first | omega | skip
    have m1 : md [] [203] s (ui s 203 a 0) := (by repeat' (first | exact md.rf | assumption | refine md.ui ?_ ?_ | refine md.uj ?_ ?_ | exact Or.inr (by decide) | exact Or.inl (by decide)))
    have gx : ∀ i, 0 ≤ i → i < a + 1 → (ui s 203 a 0).1 203 i = 0 := fun i i0 i1 => by
      by_cases c : i = a
      · rw [c, ui_same]
      · rw [ui_ne c]; exact hx i i0 (by omega)
    have f28 := m1.f 139 28 (by decide) (by decide)
    have f42 := m1.c 142 (by decide) (by decide) (s.1 139 28)
    generalize ui s 203 a 0 = s1 at *
    refine ih s1 (a + 1) (by omega) (by omega) (by omega) gx fun s' m' tr a1 a2 a3 a4 a5 => ?_
    rw [f28, f42]
    exact hQ s' ((m1.mono (by decide) (by decide)).tr m') tr a1 a2 a3 a4 a5
theorem r_99o {s : ST} {rb : Int} {Q : ST → Int → Prop} (h4 : s.1 139 4 = 0) (h29 : s.1 139 29 = rb) (hrb : 0 ≤ rb ∧ rb ≤ 1) (W : WF s rb) (hbig : 400 < sm (fun d => s.1 151 (40 * rb + s.1 145 (8 * rb + d))) 0 (s.1 143 rb).toNat → Q (ui (ui s 139 4 5) 139 5 (s.1 139 3)) (-1)) (hsm : sm (fun d => s.1 151 (40 * rb + s.1 145 (8 * rb + d))) 0 (s.1 143 rb).toNat ≤ 400 → K_X11_program_148 (ui s 139 28 rb) 0 Q) : K_X11_program_99 s Q := by
  have kbig : 400 < sm (fun d => s.1 151 (40 * rb + s.1 145 (8 * rb + d))) 0 (s.1 143 rb).toNat → K_X11_program_129 (ui (ui s 139 4 5) 139 5 (s.1 139 3)) Q := by
    intro hlt
    have e4 : (ui (ui s 139 4 5) 139 5 (s.1 139 3)).1 139 4 = 5 := by rw [ui_ne (by decide), ui_same]
    refine s_X11_program_129 fun _ => ⟨fun h => ?_, fun _ => hbig hlt⟩
    rw [e4] at h; exact absurd h (by decide)
  have ksm : sm (fun d => s.1 151 (40 * rb + s.1 145 (8 * rb + d))) 0 (s.1 143 rb).toNat ≤ 400 → K_X11_program_129 s Q := by
    intro hle
    refine s_X11_program_129 ?_
    rw [h29]
    exact fun _ => ⟨fun _ => hsm hle, fun h => absurd h4 h⟩
  refine s_X11_program_99 ?_
  rw [h29]
  refine fun _ => ⟨fun h => absurd h4 h, fun _ => c_X11_asksOf W ⟨fun h => ksm h, fun h => ?_⟩⟩
  refine s_X11_fails ?_
  rw [h4]
  (repeat' (with_reducible first | refine ⟨?_, ?_⟩ | intro _))
  all_goals first | omega | exact kbig (by omega)
end RPROG
