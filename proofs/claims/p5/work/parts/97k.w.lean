/-! THE REFERENCE: a step, a whole run -/
theorem ar_two {so : Int} (h : so ≠ 5) (h1 : ar so ≠ 0) : ar so ≤ 2 := by
  unfold ar at *
  repeat' split
  all_goals omega
theorem c_X11_step {s0 : ST} {b : Int} {Q : ST → Prop} (hS : STP s0 b Q) (r : RN s0 b) (e88 : s0.1 139 88 = 0) (h1 : 1 ≤ s0.1 139 83) (w : WF s0 b) (h28 : s0.1 139 28 = b) : C_X11_step s0 Q := by
  obtain ⟨r, hres0⟩ := r
  obtain ⟨a1, a2, a3, a4, a5, a6⟩ := id r
  obtain ⟨v1, v2, v3, v4⟩ := a6 (s0.1 139 83 - 1) (by omega) (by omega)
  have hb := w.bb
  have nn := w.nn
  have m1 : md [] [189] s0 (ui s0 189 (s0.1 139 83 - 1) (s0.1 189 (s0.1 139 83 - 1) + 1)) := (by repeat' (first | exact md.rf | assumption | refine md.ui ?_ ?_ | refine md.uj ?_ ?_ | exact Or.inr (by decide) | exact Or.inl (by decide)))
  have g89 : ∀ i, (ui s0 189 (s0.1 139 83 - 1) (s0.1 189 (s0.1 139 83 - 1) + 1)).1 189 i = if i = s0.1 139 83 - 1 then s0.1 189 (s0.1 139 83 - 1) + 1 else s0.1 189 i := fun i => by
    by_cases c : i = s0.1 139 83 - 1
    · rw [c, ui_same, if_pos rfl]
    · rw [ui_ne c, if_neg c]
  refine s_X11_step ?_
  rw [h28]
  have hso := w.so v1.1 v1.2
  generalize hs1 : ui s0 189 (s0.1 139 83 - 1) (s0.1 189 (s0.1 139 83 - 1) + 1) = s1 at *
  have f83 := m1.f 139 83 (by decide) (by decide)
  have f84 := m1.f 139 84 (by decide) (by decide)
  have f85 := m1.f 139 85 (by decide) (by decide)
  have f86 := m1.f 139 86 (by decide) (by decide)
  have f87 := m1.f 139 87 (by decide) (by decide)
  have f88 := m1.f 139 88 (by decide) (by decide)
  have f28 := m1.f 139 28 (by decide) (by decide)
  have k46 : s1.1 146 = s0.1 146 := funext fun x => m1.c 146 (by decide) (by decide) x
  have k50 : s1.1 150 = s0.1 150 := funext fun x => m1.c 150 (by decide) (by decide) x
  have k42 := m1.c 142 (by decide) (by decide) b
  have k88 : ∀ i, s1.1 188 i = s0.1 188 i := fun i => m1.c 188 (by decide) (by decide) i
  have k90 : ∀ i, s1.1 190 i = s0.1 190 i := fun i => m1.c 190 (by decide) (by decide) i
  have k91 : ∀ i, s1.1 191 i = s0.1 191 i := fun i => m1.c 191 (by decide) (by decide) i
  have w1 : WF s1 b := w.keep m1 (by decide) (by decide)
  have m0 : md rF rC s0 s1 := m1.mono (by decide) (by decide)
  have m4 : md [(139, 83), (139, 84), (139, 87), (139, 88)] [188, 189, 190, 191] s0 s1 := m1.mono (by decide) (by decide)
  have a4' : ∀ x, 0 ≤ x → x < s0.1 139 86 → s0.1 198 x < x := fun x x0 x1 => (a4 x x0 x1).1.2
  have cv1 : CV s1 b (s0.1 190 (s0.1 139 83 - 1)) (s0.1 188 (s0.1 139 83 - 1)) := v3.md4 r m4
  have fr1 : ∀ i, 0 ≤ i → i < s1.1 139 83 - 1 → FRM s1 b i := fun i i0 i1 => (a6 i i0 (by omega)).upd m4 a4' (k88 i) (by rw [g89, if_neg (by omega)]) (k90 i) (k91 i)
  have r1 : RNb s1 b 0 0 1 := by
    refine ⟨by omega, by omega, by omega, fun e e0 e1 => ?_, fun i i0 i1 => ?_, fr1⟩
    · rw [m1.c 198 (by decide) (by decide), m1.c 197 (by decide) (by decide), f85]; exact a4 e e0 (by omega)
    · obtain ⟨w1, w2, w3, w4⟩ := a5 i i0 (by omega)
      unfold VAL
      rw [m1.c 192 (by decide) (by decide), m1.c 193 (by decide) (by decide), m1.c 194 (by decide) (by decide), m1.c 195 (by decide) (by decide), k42, k46, f85]
      exact ⟨w1, fun h => ⟨(w2 h).1, (w2 h).2.md4 r m4⟩, w3, w4⟩
  have tp : TOPS s0 s1 b := ⟨m0, r1, by omega, by omega, by omega, by omega, w1, by omega, by rw [f83, k88, k42]; exact v1, by rw [f83, k88, k90]; exact cv1⟩
  have hst : s0.1 139 83 = 0 ∨ 1 ≤ s0.1 189 (s0.1 139 83 - 1) → RES s1 := fun h => by
    have := hres0 h
    unfold RES at *
    rw [f87, f85]; exact this
  have top1 : s0.1 189 (s0.1 139 83 - 1) = 0 → FRM s1 b (s1.1 139 83 - 1) := fun h => by
    unfold FRM
    rw [f83, k88, k90, k91, g89, if_pos rfl, k42, k46]
    exact ⟨v1, ⟨⟨by omega, by omega⟩, fun _ => by omega⟩, cv1, fun h => by omega⟩
  have popQ : 1 ≤ s0.1 189 (s0.1 139 83 - 1) → Q (ui s1 139 83 (s0.1 139 83 - 1)) := fun h => by
    have := hst (Or.inr h)
    exact pop_ok hS m0 r1 (by omega) (by omega) f83 f84 (by omega) (md.rf.ui (Or.inl (by decide))) (by rw [ui_same]; omega) (ui_ne (by decide)) this
  generalize htop : s0.1 139 83 - 1 = top at *
  have htop1 : s1.1 139 83 - 1 = top := by omega
  rw [htop1] at top1
  generalize hst0 : s0.1 189 top = st at *
  generalize hpl : s0.1 188 top = p at *
  generalize hso0 : s0.1 146 (40 * b + p) = so at *
  have e46 : s1.1 146 (40 * b + p) = so := by rw [k46]; exact hso0
  have kw : ∀ k s2, md [] [191] s1 s2 → (∀ i, i ≠ top → s2.1 191 i = s1.1 191 i) → FRM s2 b top → 0 ≤ k → k < ar so → so ≠ 3 → C_X11_works s2 (s2.1 152 (3 * (40 * b + p) + k)) (s2.1 190 top) Q := by
    intro k s2 m2 h91 hf k0 k1 h3
    have w2 : WF s2 b := w1.keep m2 (by decide) (by decide)
    have m24 : md [(139, 83), (139, 84), (139, 87), (139, 88)] [188, 189, 190, 191] s1 s2 := m2.mono (by decide) (by decide)
    have f46 : s2.1 146 (40 * b + p) = so := by rw [m2.c 146 (by decide) (by decide)]; exact e46
    have f42 := m2.c 142 (by decide) (by decide) b
    have g83 := m2.f 139 83 (by decide) (by decide)
    have g84 := m2.f 139 84 (by decide) (by decide)
    have r2 : RNb s2 b 0 0 0 := by
      refine r1.upd m24 g83 g84 (by omega) (by omega) fun i i0 i1 => ?_
      by_cases c : i = top
      · rw [c]; exact hf
      · exact (fr1 i i0 (by omega)).upd m24 (fun x x0 x1 => (r1.2.2.2.1 x x0 x1).1.2) (m2.c 188 (by decide) (by decide) i) (m2.c 189 (by decide) (by decide) i) (m2.c 190 (by decide) (by decide) i) (h91 i c)
    have hk := w2.kid (p := p) v1.1 (by omega) k0 (by rw [f46]; exact k1)
    have cv2 := hf.2.2.1
    rw [show s2.1 188 top = p by rw [m2.c 188 (by decide) (by decide), k88]; exact hpl] at cv2
    exact c_X11_works hS (m0.tr (m2.mono (by decide) (by decide))) r2.wk (by rw [m2.f 139 88 (by decide) (by decide)]; omega) (by omega) (by omega) ⟨by omega, by omega⟩ (w2.kcv cv2 v1.1 (by omega) k0 (by rw [f46]; exact k1) (by rw [f46]; exact h3)) (by omega)
  have kw0 : st = 0 → ∀ k, 0 ≤ k → k < ar so → so ≠ 3 → C_X11_works s1 (s1.1 152 (3 * (40 * b + p) + k)) (s1.1 190 top) Q := fun h k k0 k1 h3 => kw k s1 md.rf (fun _ _ => rfl) (top1 h) k0 k1 h3
  have k134 : st = 0 → ∀ k, 0 ≤ k → k < ar so → so ≠ 3 → K_X11_step_134 s1 top (3 * (40 * b + p)) k Q := by
    intro h k k0 k1 h3
    have har := ar_r so
    refine s_X11_step_134 ?_
    (repeat' (with_reducible first | refine ⟨?_, ?_⟩ | intro _))
    all_goals first | omega | exact kw0 h k k0 k1 h3
  have k110 : (so = 4 ∨ so = 16) → K_X11_step_110 s1 top (40 * b + p) so st Q := by
    intro h
    refine s_X11_step_110 ?_
    rw [htop1]
    (repeat' (with_reducible first | refine ⟨?_, ?_⟩ | intro _))
    all_goals first | omega | exact popQ (by omega) | skip
    · exact k134 (by omega) 0 (by omega) (by rcases h with h | h <;> rw [h] <;> decide) (by omega)
    · exact k134 (by omega) 1 (by omega) (by rw [show so = 4 by assumption]; decide) (by omega)
  have k204 : st < ar so → so ≠ 3 → ∀ s2, md [] [191] s1 s2 → (∀ i, i ≠ top → s2.1 191 i = s1.1 191 i) → FRM s2 b top → K_X11_step_204 s2 top (40 * b + p) st Q := by
    intro h h3 s2 m2 h91 hf
    have har := ar_r so
    refine s_X11_step_204 ?_
    (repeat' (with_reducible first | refine ⟨?_, ?_⟩ | intro _))
    all_goals first | omega | exact kw st s2 m2 h91 hf (by omega) h h3
  have k254 : ar so ≠ 0 → so ≠ 3 → so ≠ 4 → so ≠ 5 → so ≠ 16 → ar so ≤ st → (so = 6 → st ≠ 3) → K_X11_step_254 s1 top so Q := by
    intro h0 h3 h4 h5 h16 hle h6
    have har := ar_r so
    have hr := hst (Or.inr (by omega))
    have k91t := k91 top
    refine s_X11_step_254 ?_
    simp only [ar_F]
    (repeat' (with_reducible first | refine ⟨?_, ?_⟩ | intro _))
    all_goals first | omega | skip
    · have h2 : ¬ ar so = 1 := by assumption
      have := v4 (by omega) h5
      refine c_X11_doTwo hS tp (by omega) ?_
      unfold RES at hr
      omega
    · exact c_X11_doOne hS tp hr
    · have h6' : so = 6 := by assumption
      have h2 : ar so = 2 := by rw [h6']; rfl
      have := v4 (by omega) h5
      have hc := c_X11_call hS tp (by rw [htop1]; omega) hr (by
        rw [htop1]
        unfold FRM
        rw [k88, k90, k91, g89, if_pos rfl, k42, k46, hpl]
        exact ⟨v1, ⟨⟨by omega, by omega⟩, fun _ => by omega⟩, cv1, fun _ _ => by omega⟩)
      rw [htop1] at hc
      exact hc
  have hstR : st = 0 ∨ 1 ≤ st := by omega
  simp only [ar_F]
  (repeat' (with_reducible first | refine ⟨?_, ?_⟩ | intro _))
  all_goals first | omega | skip
  · exact k110 (Or.inl (by assumption))
  · exact k254 (by omega) (by omega) (by omega) (by omega) (by omega) (by omega) (by omega)
  · exact k254 (by omega) (by omega) (by omega) (by omega) (by omega) (by omega) (by omega)
  · exact popQ (by omega)
  · have h0 : st = 0 := by
      have := ar_two (so := so) (by assumption) (by omega)
      omega
    exact k204 (by omega) (by omega) s1 md.rf (fun _ _ => rfl) (top1 h0)
  · have h1 : st = 1 := by assumption
    have hr := hst (Or.inr (by omega))
    unfold RES at hr
    rw [f87] at hr
    have m2 : md [] [191] s1 (ui s1 191 top (s0.1 139 87)) := (by repeat' (first | exact md.rf | assumption | refine md.ui ?_ ?_ | refine md.uj ?_ ?_ | exact Or.inr (by decide) | exact Or.inl (by decide)))
    refine k204 (by omega) (by omega) _ m2 (fun i hi => ui_ne hi) ?_
    have hfm : FRM (ui s1 191 top (s0.1 139 87)) b top := by
      unfold FRM
      have e191 : (ui s1 191 top (s0.1 139 87)).1 191 top = s0.1 139 87 := ui_same
      have e85 : (ui s1 191 top (s0.1 139 87)).1 139 85 = s1.1 139 85 := ui_cell (by decide)
      rw [e191, e85, m2.c 188 (by decide) (by decide), m2.c 189 (by decide) (by decide), m2.c 190 (by decide) (by decide), m2.c 142 (by decide) (by decide), m2.c 146 (by decide) (by decide), k88, k90, g89, if_pos rfl, k42, hpl, k46]
      have m24 : md [(139, 83), (139, 84), (139, 87), (139, 88)] [188, 189, 190, 191] s1 (ui s1 191 top (s0.1 139 87)) := m2.mono (by decide) (by decide)
      exact ⟨v1, ⟨⟨by omega, by omega⟩, fun _ => by omega⟩, cv1.md4 r1 m24, fun _ _ => by omega⟩
    exact hfm
  · have hfrm : st ≤ 1 → FRM s1 b (s1.1 139 83 - 1) := fun h => by
      rw [htop1]
      unfold FRM
      rw [k88, k90, k91, g89, if_pos rfl, k42, k46, hpl]
      exact ⟨v1, ⟨⟨by omega, by omega⟩, fun _ => by omega⟩, cv1, fun h1 h2 => absurd (by omega) h2⟩
    have hc := c_X11_stepIf (g := 40 * b + p) (st := st) hS tp (by rw [htop1, k88, hpl]) (by omega) (by have := v2.2 (by omega); omega) (fun h => hst (Or.inr h)) hfrm
    rw [htop1] at hc
    exact hc
  · exact k110 (Or.inr (by assumption))
  · have h3 : so = 3 := by assumption
    refine c_X11_valueOf r1 (by omega) ⟨by omega, fun _ => ⟨⟨by omega, by rw [e46]; exact h3⟩, cv1⟩, fun e => by omega, fun e => by omega⟩ fun s' m' n' r' => ?_
    exact c_X11_gives hS (m0.tr (m'.mono (by decide) (by decide))) r' (by omega) (by rw [m'.f 139 88 (by decide) (by decide)]; omega) (by rw [m'.f 139 83 (by decide) (by decide)]; omega) (by rw [m'.f 139 84 (by decide) (by decide)]; omega) (by rw [m'.f 139 83 (by decide) (by decide)]; omega) (by omega)
  · have hc := c_X11_stepLeaf (g := 40 * b + p) (so := so) (st := st) hS tp (by rw [htop1, k88, hpl]) (by omega) (by assumption) (by omega) (fun h => hst (Or.inr h)) (fun h => by rw [htop1]; exact top1 h)
    rw [htop1] at hc
    exact hc
theorem k_runs54 {b : Int} {Q : ST → Prop} : ∀ (n : Nat) (s0 s : ST), (∀ s', md rF rC s0 s' → (s'.1 139 88 = 0 → RN s' b ∧ RES s') → Q s') → md rF rC s0 s → WF s b → s.1 139 28 = b → (s.1 139 88 ≠ 0 ∨ s.1 139 88 = 0 ∧ RN s b ∧ 2 * (4000 - s.1 139 84) + s.1 139 83 < n) → K_X11_runs_54 s Q := by
  intro n
  induction n with
  | zero =>
    intro s0 s hQ m0 w h28 h
    rcases h with h | ⟨h, r, h1⟩
    · exact s_X11_runs_54 fun _ => ⟨fun _ => hQ s m0 (fun e => absurd e h), fun _ => ⟨fun _ => hQ s m0 (fun e => absurd e h), fun e => absurd e h⟩⟩
    · have := r.1.1; have := r.1.2.1; omega
  | succ n ih =>
    intro s0 s hQ m0 w h28 h
    rcases h with h | ⟨h, r, h1⟩
    · exact s_X11_runs_54 fun _ => ⟨fun _ => hQ s m0 (fun e => absurd e h), fun _ => ⟨fun _ => hQ s m0 (fun e => absurd e h), fun e => absurd e h⟩⟩
    · refine s_X11_runs_54 fun _ => ⟨fun hl => hQ s m0 (fun _ => ⟨r, r.2 (Or.inl (by have := r.1.1; omega))⟩), fun hg => ⟨fun e => absurd h e, fun _ => ?_⟩⟩
      refine c_X11_step (fun s' m' h' => ?_) r h (by omega) w h28
      refine ih s0 s' hQ (m0.tr m') (w.keep m' (by decide) (by decide)) (by rw [m'.f 139 28 (by decide) (by decide)]; exact h28) ?_
      rcases h' with h' | ⟨h', r', h1'⟩
      · exact Or.inl h'
      · exact Or.inr ⟨h', r', by omega⟩
theorem c_X11_runs {s : ST} {b : Int} {Q : ST → Prop} (w : WF s b) (h28 : s.1 139 28 = b) (hd : 1 ≤ s.1 143 b) (hQ : ∀ s', md rF rC s s' → (s'.1 139 88 = 0 → RN s' b ∧ RES s') → Q s') : C_X11_runs s Q := by
  have hb := w.bb
  have nn := w.nn
  have hR := w.dR (d := s.1 143 b - 1) (by omega) (by omega)
  refine s_X11_runs ?_
  rw [h28]
  have m1 : md rF rC s (ui (ui (ui (ui (ui s 139 83 0) 139 84 0) 139 85 0) 139 86 0) 139 88 0) := (by repeat' (first | exact md.rf | assumption | refine md.ui ?_ ?_ | refine md.uj ?_ ?_ | exact Or.inr (by decide) | exact Or.inl (by decide)))
  have g83 : (ui (ui (ui (ui (ui s 139 83 0) 139 84 0) 139 85 0) 139 86 0) 139 88 0).1 139 83 = 0 := by rw [ui_ne (by decide), ui_ne (by decide), ui_ne (by decide), ui_ne (by decide), ui_same]
  have g84 : (ui (ui (ui (ui (ui s 139 83 0) 139 84 0) 139 85 0) 139 86 0) 139 88 0).1 139 84 = 0 := by rw [ui_ne (by decide), ui_ne (by decide), ui_ne (by decide), ui_same]
  have g85 : (ui (ui (ui (ui (ui s 139 83 0) 139 84 0) 139 85 0) 139 86 0) 139 88 0).1 139 85 = 0 := by rw [ui_ne (by decide), ui_ne (by decide), ui_same]
  have g86 : (ui (ui (ui (ui (ui s 139 83 0) 139 84 0) 139 85 0) 139 86 0) 139 88 0).1 139 86 = 0 := by rw [ui_ne (by decide), ui_same]
  have g88 : (ui (ui (ui (ui (ui s 139 83 0) 139 84 0) 139 85 0) 139 86 0) 139 88 0).1 139 88 = 0 := ui_same
  (repeat' (with_reducible first | refine ⟨?_, ?_⟩ | intro _))
  all_goals first | omega | skip
  rw [show 8 * b + s.1 143 b - 1 = 8 * b + (s.1 143 b - 1) by omega]
  have key : ∀ s1, s1 = (ui (ui (ui (ui (ui s 139 83 0) 139 84 0) 139 85 0) 139 86 0) 139 88 0) → C_X11_works s1 (s.1 145 (8 * b + (s.1 143 b - 1))) (-1) (fun s9 => K_X11_runs_54 s9 Q) := by
    intro s1 h1
    rw [← h1] at m1 g83 g84 g85 g86 g88
    have w1 : WF s1 b := w.keep m1 (by decide) (by decide)
    have k28 := m1.f 139 28 (by decide) (by decide)
    have k42 := m1.c 142 (by decide) (by decide) b
    have k43 := m1.c 143 (by decide) (by decide) b
    have k45 := m1.c 145 (by decide) (by decide) (8 * b + (s.1 143 b - 1))
    refine c_X11_works (s0 := s1) (b := b) (fun s' m' h' => ?_) md.rf ⟨by omega, by omega, by omega, fun e e0 e1 => by omega, fun i i0 i1 => by omega, fun i i0 i1 => by omega⟩ g88 rfl rfl (by omega) ⟨by omega, fun f f0 f1 f2 f3 => ?_⟩ (by omega)
    · refine k_runs54 8200 s s' hQ (m1.tr m') (w1.keep m' (by decide) (by decide)) (by rw [m'.f 139 28 (by decide) (by decide)]; omega) ?_
      rcases h' with h' | ⟨h', r', h1'⟩
      · exact Or.inl h'
      · exact Or.inr ⟨h', r', by omega⟩
    · have := w1.sep (q := f) (d := s.1 143 b - 1) f0 (by omega) (by omega) (by rw [k45]; exact f1)
      rw [k45] at this
      omega
  exact key _ rfl
theorem c_X11_run {s : ST} {b p : Int} {Q : ST → Int → Prop} (w : WF s b) (h28 : s.1 139 28 = b) (hQ : ∀ s' v, md rF rC s s' → Q s' v) : C_X11_run s p Q := by
  have hb := w.bb
  have nn := w.nn
  refine s_X11_run ?_
  rw [h28]
  (repeat' (with_reducible first | refine ⟨?_, ?_⟩ | intro _))
  all_goals first | omega | exact hQ _ _ md.rf | skip
  refine c_X11_runs w h28 (by omega) fun s' m' h' => ?_
  (repeat' (with_reducible first | refine ⟨?_, ?_⟩ | intro _))
  all_goals first | exact hQ _ _ m' | skip
  all_goals
    have h8 : s'.1 139 88 = 0 := by assumption
    obtain ⟨r, h1, h2⟩ := h' h8
    have r2 := r.1.1
    have r3 := r.1.2.1
    omega
