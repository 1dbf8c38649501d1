/-! READING ALIKE: a text, side by side -/
section TEXT
variable {s0 x0 : ST}
theorem r_78 {m : ST} {QP : ST → Int → Prop} (h1 : (m.1 139 4 ≠ 0 ∨ m.1 139 8 = 0) → K_X11_program_99 m QP) (h2 : m.1 139 4 = 0 → m.1 139 8 ≠ 0 → C_X11_readDef m (fun s2 => K_X11_program_78 s2 QP)) : K_X11_program_78 m QP := by
  refine s_X11_program_78 ?_
  (repeat' (with_reducible first | refine ⟨?_, ?_⟩ | intro _))
  all_goals first | exact h1 (Or.inl (by assumption)) | exact h1 (Or.inr (by assumption)) | exact h2 (by assumption) (by assumption) | (exact h2 (by omega) (by omega)) | (exact h1 (by omega))
theorem m_text {Q : ST → Int → Prop}
    (hok : ∀ x' n' nD', DFX s0 x' n' nD' → (∀ m0 QP b, DFM x0 m0 b 0 0 → (∀ m, RM b m0 m → DFM x' m b n' nD' → K_X11_program_99 m QP) → K_X11_program_78 m0 QP) → Q x' 1)
    (herr : ∀ x', KZ s0 x' → PT x' → x'.1 46 0 ≠ 0 → (∀ m0 QP b, DFM x0 m0 b 0 0 → (∀ m, RM b m0 m → ERR x' m → K_X11_program_99 m QP) → K_X11_program_78 m0 QP) → Q x' 0) :
    ∀ (j : Nat) (x : ST) (n : Int) (nD : Nat), 9 - (nD : Int) ≤ (j : Int) → DFX s0 x n nD → (∀ m0 QP b, DFM x0 m0 b 0 0 → (∀ m, RM b m0 m → DFM x m b n nD → K_X11_program_78 m QP) → K_X11_program_78 m0 QP) → K_X7_readText_33 x nD Q := by
  have k33e : ∀ (x' : ST) (a : Int), x'.1 46 0 ≠ 0 → Q x' 0 → K_X7_readText_33 x' a Q := by
    intro x' a h hq
    have k71 : K_X7_readText_71 x' Q := by
      refine s_X7_readText_71 ?_
      (repeat' (with_reducible first | refine ⟨?_, ?_⟩ | intro _))
      all_goals first | exact hq | exact absurd (by assumption) h
    refine s_X7_readText_33 ?_
    (repeat' (with_reducible first | refine ⟨?_, ?_⟩ | intro _))
    all_goals first | exact k71 | exact absurd (by assumption) h
  intro j
  induction j with
  | zero => intro x n nD hj dx; have := dx.2.2.1.2; omega
  | succ j ih =>
    intro x n nD hj dx adv
    have f0 := dx.1.2.2
    have hD := dx.2.2.1.2
    by_cases h5 : x.1 46 5 = 0
    · have k71 : K_X7_readText_71 x Q := by
        refine s_X7_readText_71 fun _ => ⟨fun h => absurd f0 h, fun _ => ?_⟩
        refine hok x n nD dx fun m0 QP b D hm => adv m0 QP b D fun m rm B => r_78 (fun _ => hm m rm B) (fun _ h => absurd (B.1.tok.2.2.2.mp h5) h)
      refine s_X7_readText_33 ?_
      (repeat' (with_reducible first | refine ⟨?_, ?_⟩ | intro _))
      all_goals first | exact k71 | omega | exact absurd h5 (by assumption)
    · have kd := m_def (P := fun s3 => R32 ((nD : Int) + 1) ∧ K_X7_readText_33 s3 ((nD : Int) + 1) Q) dx (fun x' n' dx' ad => ⟨by unfold R32; omega, ?_⟩) (fun x' kz' px' he ad => ⟨by unfold R32; omega, k33e x' _ he (herr x' kz' px' he fun m0 QP b D hm => adv m0 QP b D fun m rm B => ?_)⟩)
      · refine s_X7_readText_33 ?_
        (repeat' (with_reducible first | refine ⟨?_, ?_⟩ | intro _))
        all_goals first | omega | exact kd | exact absurd f0 (by assumption)
      · have := ih x' n' (nD + 1) (by omega) dx' fun m0 QP b D hm => adv m0 QP b D fun m rm B => r_78 (fun h => ?_) (fun _ _ => ad m _ b B fun m' rm' B' => hm m' (rm.tr rm') B')
        · rw [show ((nD + 1 : Nat) : Int) = (nD : Int) + 1 by omega] at this; exact this
        · rcases h with h | h
          · exact absurd B.1.2.2.2.1 h
          · exact absurd (B.1.tok.2.2.2.mpr h) h5
      · refine r_78 (fun h => ?_) (fun _ _ => ad m _ b B fun m' rm' er => r_78 (fun _ => hm m' (rm.tr rm') er) (fun h => absurd (er.2.1.symm.trans h) er.1))
        rcases h with h | h
        · exact absurd B.1.2.2.2.1 h
        · exact absurd (B.1.tok.2.2.2.mpr h) h5
end TEXT
theorem WF0 {m : ST} {b : Int} (hb : 0 ≤ b ∧ b < 6) (h2 : m.1 142 b = 0) (h3 : m.1 143 b = 0) (h4 : m.1 144 b = 0) : WF m b := by
  unfold WF
  rw [h2, h3, h4]
  refine ⟨fun p _ _ => by omega, ⟨by omega, by omega, fun _ => rfl, fun h => by omega, fun d _ _ => by omega, fun d _ _ => by omega⟩, fun p _ _ => by omega, fun p _ _ => by omega, ⟨by omega, fun k _ _ => by omega, fun p _ _ => by omega⟩, ?_, hb⟩
  unfold T6
  all_goals first | omega | (intros; omega) | skip
