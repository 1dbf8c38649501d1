/-! THE REFERENCE: program -/
def rmF : List (Nat × Int) := [(139, 4), (139, 5), (139, 6), (139, 7), (139, 8), (139, 9), (139, 10), (139, 32)]
def rmC : List Nat := [142, 143, 144, 145, 146, 147, 148, 149, 150, 151, 152, 153, 154, 155, 156, 157, 158, 159, 160]
theorem RM_toMd {b : Int} {s s' : ST} (h : RM b s s') : md rmF rmC s s' := by
  intro a x h1 h2
  refine h a x fun hw => ?_
  unfold RW at hw
  rcases hw with ⟨e, hx⟩ | ⟨e, _⟩ | ⟨e, _⟩ | ⟨e, _⟩ | ⟨e, _⟩ | ⟨e, _⟩ | e
  · have : x = 4 ∨ x = 5 ∨ x = 6 ∨ x = 7 ∨ x = 8 ∨ x = 9 ∨ x = 10 ∨ x = 32 := by omega
    rcases this with k | k | k | k | k | k | k | k <;> (rw [e, k] at h1; exact h1 (by decide))
  all_goals
    first
    | (rw [e] at h2; exact h2 (by decide))
    | (rcases e with k | k | k | k | k | k | k | k | k | k <;> (rw [k] at h2; exact h2 (by decide)))
    | (rcases e with k | k | k <;> (rw [k] at h2; exact h2 (by decide)))
    | (rcases e with k | k <;> (rw [k] at h2; exact h2 (by decide)))
theorem RM.wx {rb b : Int} {s s' : ST} (h : RM rb s s') (hr : 0 ≤ rb ∧ rb ≤ 1) (hb : 0 ≤ b ∧ b < 6) (hne : b ≠ rb) : WX s b s' b :=
  ⟨h.wq hr hb hne, fun i i0 i1 => (h 157 _ (by unfold RW; omega)).2, fun i i0 i1 => (h 158 _ (by unfold RW; omega)).2⟩
def pF0 : List (Nat × Int) := (139, 2) :: (139, 3) :: (139, 29) :: rmF
def pC0 : List Nat := 141 :: rmC
def pF : List (Nat × Int) := (139, 28) :: (139, 49) :: (139, 62) :: (139, 63) :: (139, 92) :: pF0
def pC : List Nat := 176 :: 203 :: pC0
theorem c_X11_program {s0 : ST} {Q : ST → Int → Prop} (hb : 0 ≤ s0.1 139 28 ∧ s0.1 139 28 ≤ 1) (h2 : 0 ≤ s0.1 139 2 ∧ s0.1 139 2 ≤ 1600) (hQ1 : ∀ s', md pF0 pC0 s0 s' → (∀ x, 0 ≤ x → x < 6 → x ≠ 1 - s0.1 139 28 → WX s0 x s' x) → s'.1 139 2 = 0 → Q s' (-1))
    (hQ2 : ∀ s' v, md pF pC s0 s' → (0 ≤ s'.1 139 28 ∧ s'.1 139 28 ≤ 1) → LV s' (s'.1 139 28) → TR s' → s'.1 139 92 = 0 → s'.1 139 49 = -1 → s'.1 139 62 = 0 → s'.1 139 63 = 0 → (∀ k, 0 ≤ k → k < 3 → s'.1 203 k = 0) → s'.1 139 2 = 0 → Q s' v) : C_X11_program s0 Q := by
  have hrb : 0 ≤ 1 - s0.1 139 28 ∧ 1 - s0.1 139 28 ≤ 1 := by omega
  -- the boxes emptied
  have k148 : ∀ (k : Nat) (s : ST) (a : Int), 3 - a = (k : Int) → 0 ≤ a → md pF pC s0 s → (0 ≤ s.1 139 28 ∧ s.1 139 28 ≤ 1) → LV s (s.1 139 28) → (∀ i, 0 ≤ i → i < a → s.1 203 i = 0) → s.1 139 2 = 0 → K_X11_program_148 s a Q := by
    intro k
    induction k with
    | zero =>
      intro s a hk a0 m0 h28 lv hx h2
      refine s_X11_program_148 ?_
      (repeat' (with_reducible first | refine ⟨?_, ?_⟩ | intro _))
      all_goals first | omega | skip
      refine c_X11_begin fun s1 m1 tr e92 e49 e62 e63 => ?_
      have f28 := m1.f 139 28 (by decide) (by decide)
      rw [f28]
      (repeat' (with_reducible first | refine ⟨?_, ?_⟩ | intro _))
      all_goals first | omega | skip
      have lv1 : LV s1 (s1.1 139 28) := by
        rw [f28]; exact lv.copy (WX.md m1 (by decide) (by decide)).1 (by omega)
      refine hQ2 s1 _ (m0.tr (m1.mono (by decide) (by decide))) (by omega) lv1 tr e92 e49 e62 e63 (fun i i0 i1 => ?_) ?_
      · rw [m1.c 203 (by decide) (by decide)]; exact hx i i0 (by omega)
      · rw [m1.f 139 2 (by decide) (by decide)]; exact h2
    | succ k ih =>
      intro s a hk a0 m0 h28 lv hx h2
      refine s_X11_program_148 ?_
      (repeat' (with_reducible first | refine ⟨?_, ?_⟩ | intro _))
      all_goals first | omega | skip
      have m1 : md [] [203] s (ui s 203 a 0) := (by repeat' (first | exact md.rf | assumption | refine md.ui ?_ ?_ | refine md.uj ?_ ?_ | exact Or.inr (by decide) | exact Or.inl (by decide)))
      have gx : ∀ i, 0 ≤ i → i < a + 1 → (ui s 203 a 0).1 203 i = 0 := fun i i0 i1 => by
        by_cases c : i = a
        · rw [c, ui_same]
        · rw [ui_ne c]; exact hx i i0 (by omega)
      generalize ui s 203 a 0 = s1 at *
      have f28 := m1.f 139 28 (by decide) (by decide)
      refine ih s1 (a + 1) (by omega) (by omega) (m0.tr (m1.mono (by decide) (by decide))) (by omega) ?_ gx (by rw [m1.f 139 2 (by decide) (by decide)]; exact h2)
      rw [f28]; exact lv.copy (WX.md m1 (by decide) (by decide)).1 (by omega)
  have k129 : ∀ s, md pF0 pC0 s0 s → (∀ x, 0 ≤ x → x < 6 → x ≠ 1 - s0.1 139 28 → WX s0 x s x) → s.1 139 2 = 0 → s.1 139 29 = 1 - s0.1 139 28 → (s.1 139 4 = 0 → LV s (1 - s0.1 139 28)) → K_X11_program_129 s Q := by
    intro s m0 wx e2 e29 lv
    refine s_X11_program_129 ?_
    (repeat' (with_reducible first | refine ⟨?_, ?_⟩ | intro _))
    · have m1 : md [(139, 28)] [] s (ui s 139 28 (s.1 139 29)) := (by repeat' (first | exact md.rf | assumption | refine md.ui ?_ ?_ | refine md.uj ?_ ?_ | exact Or.inr (by decide) | exact Or.inl (by decide)))
      have e28 : (ui s 139 28 (s.1 139 29)).1 139 28 = s.1 139 29 := ui_same
      have lv' := lv (by assumption)
      generalize ui s 139 28 (s.1 139 29) = s1 at *
      refine k148 3 s1 0 (by omega) (by omega) ((m0.mono (by decide) (by decide)).tr (m1.mono (by decide) (by decide))) (by omega) ?_ (fun i i0 i1 => by omega) (by rw [m1.f 139 2 (by decide) (by decide)]; exact e2)
      rw [e28, e29]; exact lv'.copy (WX.md m1 (by decide) (by decide)).1 (by omega)
    · exact hQ1 s m0 wx e2
  -- the rest in terms of the state sB when the reading begins
  have k78 : ∀ (sB : ST), md pF0 pC0 s0 sB → (∀ x, 0 ≤ x → x < 6 → x ≠ 1 - s0.1 139 28 → WX s0 x sB x) → sB.1 139 2 = 0 → sB.1 139 29 = 1 - s0.1 139 28 → ∀ (k : Nat) (s : ST), RM (1 - s0.1 139 28) sB s → RDC s → (s.1 139 4 = 0 → WF s (1 - s0.1 139 28) ∧ 8 - s.1 143 (1 - s0.1 139 28) < (k : Int)) → K_X11_program_78 s Q := by
    intro sB mB wB eB2 eB29
    have fin : ∀ s, RM (1 - s0.1 139 28) sB s → (s.1 139 4 = 0 → LV s (1 - s0.1 139 28)) → K_X11_program_129 s Q := fun s r lv =>
      k129 s (mB.tr ((RM_toMd r).mono (by decide) (by decide))) (fun x x0 x1 hx => (wB x x0 x1 hx).tr (r.wx hrb (by omega) hx)) (by rw [(r 139 2 (by unfold RW; omega)).1]; exact eB2) (by rw [(r 139 29 (by unfold RW; omega)).1]; exact eB29) lv
    have k99 : ∀ s, RM (1 - s0.1 139 28) sB s → (s.1 139 4 = 0 → WF s (1 - s0.1 139 28)) → K_X11_program_99 s Q := by
      intro s r hw
      have e29 : s.1 139 29 = 1 - s0.1 139 28 := by rw [(r 139 29 (by unfold RW; omega)).1]; exact eB29
      refine s_X11_program_99 ?_
      rw [e29]
      (repeat' (with_reducible first | refine ⟨?_, ?_⟩ | intro _))
      · exact fin s r (fun e => absurd e (by assumption))
      · have w := hw (by omega)
        refine c_X11_asksOf w ?_
        (repeat' (with_reducible first | refine ⟨?_, ?_⟩ | intro _))
        · exact fin s r (fun _ => ⟨w, by assumption⟩)
        · exact c_X11_fails (by decide) fun s' m' h' => fin s' (r.tr (RM.md m' (by decide))) (fun e => absurd e h')
    intro k
    induction k with
    | zero =>
      intro s r c hi
      have e29 : s.1 139 29 = 1 - s0.1 139 28 := by rw [(r 139 29 (by unfold RW; omega)).1]; exact eB29
      refine s_X11_program_78 ?_
      (repeat' (with_reducible first | refine ⟨?_, ?_⟩ | intro _))
      all_goals first | exact k99 s r (fun h => (hi h).1) | skip
      have hi' := hi (by omega)
      have nn := hi'.1.nn
      omega
    | succ k ih =>
      intro s r c hi
      have e29 : s.1 139 29 = 1 - s0.1 139 28 := by rw [(r 139 29 (by unfold RW; omega)).1]; exact eB29
      refine s_X11_program_78 ?_
      (repeat' (with_reducible first | refine ⟨?_, ?_⟩ | intro _))
      all_goals first | exact k99 s r (fun h => (hi h).1) | skip
      have hi' := hi (by omega)
      refine c_X11_readDef hi'.1 hrb e29 c fun s' r' c' h' => ih s' (r.tr r') c' fun h4 => ?_
      obtain ⟨w', e43⟩ := h' h4
      exact ⟨w', by omega⟩
  have k20 : ∀ (k : Nat) (s : ST) (a : Int), s0.1 139 2 - a = (k : Int) → 0 ≤ a → md pF0 [141] s0 s → s.1 139 3 = s0.1 139 2 → s.1 139 28 = s0.1 139 28 → s.1 139 4 = 0 → K_X11_program_20 s a Q := by
    intro k
    induction k with
    | zero =>
      intro s a hk a0 m0 e3 e28 e4
      refine s_X11_program_20 ?_
      rw [e3, e28]
      (repeat' (with_reducible first | refine ⟨?_, ?_⟩ | intro _))
      all_goals first | omega | skip
      refine s_X11_clearBank ?_
      (repeat' (with_reducible first | refine ⟨?_, ?_⟩ | intro _))
      all_goals first | omega | skip
      have m1 : md [(139, 2), (139, 7), (139, 29)] [] s (ui (ui (ui s 139 2 0) 139 7 0) 139 29 (1 - s0.1 139 28)) := (by repeat' (first | exact md.rf | assumption | refine md.ui ?_ ?_ | refine md.uj ?_ ?_ | exact Or.inr (by decide) | exact Or.inl (by decide)))
      have m2 : md [] [142, 143, 144] (ui (ui (ui s 139 2 0) 139 7 0) 139 29 (1 - s0.1 139 28)) (ui (ui (ui (ui (ui (ui s 139 2 0) 139 7 0) 139 29 (1 - s0.1 139 28)) 142 (1 - s0.1 139 28) 0) 143 (1 - s0.1 139 28) 0) 144 (1 - s0.1 139 28) 0) := (by repeat' (first | exact md.rf | assumption | refine md.ui ?_ ?_ | refine md.uj ?_ ?_ | exact Or.inr (by decide) | exact Or.inl (by decide)))
      have r2 : RM (1 - s0.1 139 28) (ui (ui (ui s 139 2 0) 139 7 0) 139 29 (1 - s0.1 139 28)) (ui (ui (ui (ui (ui (ui s 139 2 0) 139 7 0) 139 29 (1 - s0.1 139 28)) 142 (1 - s0.1 139 28) 0) 143 (1 - s0.1 139 28) 0) 144 (1 - s0.1 139 28) 0) := ((RM.rf.ui (by unfold RW; omega)).ui (by unfold RW; omega)).ui (by unfold RW; omega)
      have g2 : (ui (ui (ui s 139 2 0) 139 7 0) 139 29 (1 - s0.1 139 28)).1 139 2 = 0 := by rw [ui_ne (by decide), ui_ne (by decide), ui_same]
      have g7 : (ui (ui (ui s 139 2 0) 139 7 0) 139 29 (1 - s0.1 139 28)).1 139 7 = 0 := by rw [ui_ne (by decide), ui_same]
      have g29 : (ui (ui (ui s 139 2 0) 139 7 0) 139 29 (1 - s0.1 139 28)).1 139 29 = 1 - s0.1 139 28 := ui_same
      have g42 : (ui (ui (ui (ui (ui (ui s 139 2 0) 139 7 0) 139 29 (1 - s0.1 139 28)) 142 (1 - s0.1 139 28) 0) 143 (1 - s0.1 139 28) 0) 144 (1 - s0.1 139 28) 0).1 142 (1 - s0.1 139 28) = 0 := by rw [ui_cell (by decide), ui_cell (by decide), ui_same]
      have g43 : (ui (ui (ui (ui (ui (ui s 139 2 0) 139 7 0) 139 29 (1 - s0.1 139 28)) 142 (1 - s0.1 139 28) 0) 143 (1 - s0.1 139 28) 0) 144 (1 - s0.1 139 28) 0).1 143 (1 - s0.1 139 28) = 0 := by rw [ui_cell (by decide), ui_same]
      have g44 : (ui (ui (ui (ui (ui (ui s 139 2 0) 139 7 0) 139 29 (1 - s0.1 139 28)) 142 (1 - s0.1 139 28) 0) 143 (1 - s0.1 139 28) 0) 144 (1 - s0.1 139 28) 0).1 144 (1 - s0.1 139 28) = 0 := ui_same
      generalize ui (ui (ui (ui (ui (ui s 139 2 0) 139 7 0) 139 29 (1 - s0.1 139 28)) 142 (1 - s0.1 139 28) 0) 143 (1 - s0.1 139 28) 0) 144 (1 - s0.1 139 28) 0 = s2 at *
      generalize ui (ui (ui s 139 2 0) 139 7 0) 139 29 (1 - s0.1 139 28) = s1 at *
      have e3' : s2.1 139 3 = s0.1 139 2 := by rw [m2.f 139 3 (by decide) (by decide), m1.f 139 3 (by decide) (by decide)]; exact e3
      have e7' : s2.1 139 7 = 0 := by rw [m2.f 139 7 (by decide) (by decide)]; exact g7
      refine c_X11_goOn0 (by omega) (by omega) fun s3 m3 c3 => ?_
      refine k78 s1 ((m0.mono (by decide) (by decide)).tr (m1.mono (by decide) (by decide))) (fun x x0 x1 hx => (WX.md m0 (by decide) (by decide)).tr (WX.md m1 (by decide) (by decide))) g2 g29 9 s3 (r2.tr (RM.md m3 (by decide))) c3 fun h4 => ?_
      have x42 : s3.1 142 (1 - s0.1 139 28) = 0 := by rw [m3.c 142 (by decide) (by decide)]; exact g42
      have x43 : s3.1 143 (1 - s0.1 139 28) = 0 := by rw [m3.c 143 (by decide) (by decide)]; exact g43
      have x44 : s3.1 144 (1 - s0.1 139 28) = 0 := by rw [m3.c 144 (by decide) (by decide)]; exact g44
      refine ⟨?_, by omega⟩
      unfold WF
      rw [x42, x43, x44]
      exact ⟨fun p p0 p1 => by omega, ⟨by omega, by omega, fun _ => rfl, fun h => by omega, fun d d0 d1 => by omega, fun d d0 d1 => by omega⟩, fun p p0 p1 => by omega, fun p p0 p1 => by omega, ⟨by omega, fun k k0 k1 => by omega, fun p p0 p1 => by omega⟩, fun p p0 p1 => by omega, by omega⟩
    | succ k ih =>
      intro s a hk a0 m0 e3 e28 e4
      refine s_X11_program_20 ?_
      rw [e3]
      (repeat' (with_reducible first | refine ⟨?_, ?_⟩ | intro _))
      all_goals first | omega | skip
      have m1 : md [] [141] s (ui s 141 a (i8 (s.1 140 a))) := (by repeat' (first | exact md.rf | assumption | refine md.ui ?_ ?_ | refine md.uj ?_ ?_ | exact Or.inr (by decide) | exact Or.inl (by decide)))
      refine ih _ (a + 1) (by omega) (by omega) (m0.tr (m1.mono (by decide) (by decide))) ?_ ?_ ?_
      · rw [ui_cell (by decide)]; exact e3
      · rw [ui_cell (by decide)]; exact e28
      · rw [ui_cell (by decide)]; exact e4
  refine s_X11_program fun _ => ?_
  have m1 : md pF0 [141] s0 (ui (ui (ui s0 139 4 0) 139 5 (-1)) 139 3 (s0.1 139 2)) := (by repeat' (first | exact md.rf | assumption | refine md.ui ?_ ?_ | refine md.uj ?_ ?_ | exact Or.inr (by decide) | exact Or.inl (by decide)))
  refine k20 (s0.1 139 2).toNat _ 0 (by omega) (by omega) m1 ui_same ?_ ?_
  · rw [ui_ne (by decide), ui_ne (by decide), ui_ne (by decide)]
  · rw [ui_ne (by decide), ui_ne (by decide), ui_same]
