/-! THE REFERENCE: readE, readDef -/
theorem c_X11_readE {s0 : ST} {b n nD : Int} {Q : ST → Prop} (h : RP s0 b 0 n n nD (s0.1 144 b)) (hb : 0 ≤ b ∧ b ≤ 1) (h29 : s0.1 139 29 = b) (h42 : s0.1 142 b = n) (h43 : s0.1 143 b = nD) (hc : RDC s0) (hQ : ∀ s', RM b s0 s' → RDC s' → s'.1 143 b = nD → (s'.1 139 4 = 0 → ∃ n', RP s' b 0 n' n nD (s'.1 144 b) ∧ s'.1 142 b = n' ∧ n < n' ∧ ben s' b n = n' - 1) → Q s') : C_X11_readE s0 Q := by
  have k7 : ∀ (k : Nat) (s : ST) (a : Int), RM b s0 s → RDC s → s.1 143 b = nD → (a = 0 ∨ a = 1) → (s.1 139 4 = 0 → ∃ m n', RP s b m n' n nD (s.1 144 b) ∧ s.1 139 32 = m ∧ s.1 142 b = n' ∧ (a = 1 → m = 0 ∧ n' = n ∨ 1 ≤ m ∧ s.1 160 (m - 1) < ar (s.1 146 (40 * b + s.1 159 (m - 1)))) ∧ (a = 0 → m = 0 ∧ n < n' ∧ ben s b n = n' - 1 ∨ 1 ≤ m ∧ ar (s.1 146 (40 * b + s.1 159 (m - 1))) ≤ s.1 160 (m - 1)) ∧ 2 * (40 - n') + m < (k : Int)) → K_X11_readE_7 s a Q := by
    intro k
    induction k with
    | zero =>
      intro s a r c e43 ha hi
      refine s_X11_readE_7 fun _ _ => ⟨fun h4 => hQ s r c e43 (fun e => absurd e h4), fun h4 => ?_⟩
      obtain ⟨m, n', rp, _, _, _, _, hk⟩ := hi h4
      have := rp.1.1; have := rp.1.2.2.2.1
      omega
    | succ k ih =>
      intro s a r c e43 ha hi
      by_cases h4 : s.1 139 4 = 0
      · obtain ⟨m, n', rp, e32, e42, i1, i0, hk⟩ := hi h4
        have e29 : s.1 139 29 = b := by rw [(r 139 29 (by unfold RW; omega)).1]; exact h29
        have hm := rp.1.2.2.2.1
        have hn := rp.1.1
        have k25 : (a = 0 → 1 ≤ m) → K_X11_readE_25 s a Q := by
          intro hm1
          refine s_X11_readE_25 fun _ _ => ⟨fun h0 => ?_, fun h0 => ?_⟩
          · have hm1 := hm1 h0
            refine c_X11_endsPlace rp hb e29 e32 e42 e43 c hm1 (by rcases i0 h0 with ⟨x, _⟩ | ⟨_, x⟩ <;> omega) fun s' v ep => ?_
            obtain ⟨r', c', d43, hv, hp⟩ := ep
            refine fun _ => ih s' v (r.tr r') c' d43 hv fun h4' => ?_
            obtain ⟨rp', d32, d42, d2, d1⟩ := hp h4'
            refine ⟨m - 1, n', rp', d32, d42, fun hv1 => ?_, fun hv0 => ?_, by omega⟩
            · by_cases c1 : m = 1
              · have := (d1 c1).1; omega
              · rw [show m - 1 - 1 = m - 2 by omega]
                exact Or.inr ⟨by omega, (d2 (by omega)).2 hv1⟩
            · by_cases c1 : m = 1
              · exact Or.inl ⟨by omega, (d1 c1).2⟩
              · rw [show m - 1 - 1 = m - 2 by omega]
                exact Or.inr ⟨by omega, (d2 (by omega)).1 hv0⟩
          · have i1' := i1 (ha.resolve_left h0)
            refine c_X11_beginsPlace rp hb e29 e32 e42 e43 c (fun hm0 => by rcases i1' with ⟨_, x⟩ | ⟨x, _⟩ <;> omega) (fun hm0 => by
              rcases i1' with ⟨x, _⟩ | ⟨_, x⟩
              · omega
              · exact x) fun s' v bp => ?_
            obtain ⟨r', c', d43, hv, hp⟩ := bp
            refine fun _ => ih s' v (r.tr r') c' d43 hv fun h4' => ?_
            obtain ⟨rp', d32, d42, d60, d0, d1⟩ := hp h4'
            refine ⟨m + 1, n' + 1, rp', d32, d42, fun hv1 => ?_, fun hv0 => ?_, by omega⟩
            · rw [show m + 1 - 1 = m by omega, d60]
              exact Or.inr ⟨by omega, d1 hv1⟩
            · rw [show m + 1 - 1 = m by omega, d60, d0 hv0]
              exact Or.inr ⟨by omega, Int.le_refl 0⟩
        refine s_X11_readE_7 fun _ _ => ⟨fun h => absurd h4 h, fun _ => ⟨fun h0 => k25 (fun h => absurd h h0), fun h0 => ⟨fun hle => ?_, fun hgt => k25 (fun _ => by omega)⟩⟩⟩
        have hm0 : m = 0 := by omega
        subst hm0
        refine hQ s r c e43 fun _ => ⟨n', rp, e42, ?_⟩
        rcases i0 (by omega) with ⟨_, x1, x2⟩ | ⟨x1, _⟩
        · exact ⟨x1, x2⟩
        · omega
      · exact s_X11_readE_7 fun _ _ => ⟨fun h4 => hQ s r c e43 (fun e => absurd e h4), fun h => absurd h h4⟩
  refine s_X11_readE fun _ => ?_
  have m1 : md [(139, 32)] [] s0 (ui s0 139 32 0) := (by repeat' (first | exact md.rf | assumption | refine md.ui ?_ ?_ | refine md.uj ?_ ?_ | exact Or.inr (by decide) | exact Or.inl (by decide)))
  have g32 : (ui s0 139 32 0).1 139 32 = 0 := ui_same
  generalize ui s0 139 32 0 = s1 at *
  have e44 := m1.c 144 (by decide) (by decide) b
  have e42 := m1.c 142 (by decide) (by decide) b
  refine k7 82 s1 1 (RM.md m1 (by decide)) (hc.keep m1 (by decide) (by decide)) (by rw [m1.c 143 (by decide) (by decide)]; exact h43) (Or.inr rfl) fun _ => ⟨0, n, ?_, g32, by omega, fun _ => Or.inl ⟨rfl, rfl⟩, fun h => absurd h (by decide), ?_⟩
  · rw [e44]; exact h.keep m1 (by decide) (by decide)
  · have := h.1.1; omega
theorem c_X11_readDef {s0 : ST} {b : Int} {Q : ST → Prop} (w : WF s0 b) (hb : 0 ≤ b ∧ b ≤ 1) (h29 : s0.1 139 29 = b) (hc : RDC s0) (hQ : ∀ s', RM b s0 s' → RDC s' → (s'.1 139 4 = 0 → WF s' b ∧ s'.1 143 b = s0.1 143 b + 1) → Q s') : C_X11_readDef s0 Q := by
  have nn := w.nn
  have bad : ∀ s', RM b s0 s' → RDC s' → s'.1 139 4 ≠ 0 → Q s' := fun s' r c h => hQ s' r c (fun e => absurd e h)
  have e29 : ∀ s, RM b s0 s → s.1 139 29 = b := fun s r => by rw [(r 139 29 (by unfold RW; omega)).1]; exact h29
  have k177 : ∀ s a t, RM b s0 s → RDC s → s.1 143 b = s0.1 143 b → s0.1 143 b ≤ 7 → (s.1 139 4 = 0 → ∃ n', RP s b 0 n' (s0.1 142 b) (s0.1 143 b) (s.1 144 b) ∧ s.1 142 b = n' ∧ s0.1 142 b < n' ∧ ben s b (s0.1 142 b) = n' - 1) → K_X11_readDef_177 s a t Q := by
    intro s a t r c h43 hD hi
    refine s_X11_readDef_177 fun _ _ => c_X11_must c fun s1 m1 c1 f1 => ?_
    have r1 := r.tr (RM.md m1 (by decide))
    have x29 := e29 s1 r1
    have x43 : s1.1 143 b = s0.1 143 b := by rw [m1.c 143 (by decide) (by decide)]; exact h43
    rw [x29, x43]
    (repeat' (with_reducible first | refine ⟨?_, ?_⟩ | intro _))
    all_goals first | omega | skip
    have m2 : md [(139, 10)] [143, 157] s1 (ui (uj s1 157 (8 * b + s0.1 143 b) a) 143 b (s0.1 143 b + 1)) := (by repeat' (first | exact md.rf | assumption | refine md.ui ?_ ?_ | refine md.uj ?_ ?_ | exact Or.inr (by decide) | exact Or.inl (by decide)))
    have r2 : RM b s0 (ui (uj s1 157 (8 * b + s0.1 143 b) a) 143 b (s0.1 143 b + 1)) := (r1.uj (by unfold RW; omega)).ui (by unfold RW; omega)
    have g43 : (ui (uj s1 157 (8 * b + s0.1 143 b) a) 143 b (s0.1 143 b + 1)).1 143 b = s0.1 143 b + 1 := ui_same
    generalize ui (uj s1 157 (8 * b + s0.1 143 b) a) 143 b (s0.1 143 b + 1) = s2 at *
    refine hQ s2 r2 (c1.keep m2 (by decide) (by decide)) fun h4 => ⟨?_, g43⟩
    rw [m2.f 139 4 (by decide) (by decide)] at h4
    obtain ⟨n', rp, e42, hlt, hen⟩ := hi (Classical.byContradiction fun h => f1 h h4)
    have c : ∀ x, x ∈ [(142 : Nat), 144, 145, 146, 149, 150, 151, 152, 153, 154, 155, 156] → s2.1 x = s.1 x := by
      intro x hx
      funext z
      simp only [List.mem_cons, List.not_mem_nil, or_false] at hx
      refine (m2.c x (by rcases hx with h | h | h | h | h | h | h | h | h | h | h | h <;> rw [h] <;> decide) (by rcases hx with h | h | h | h | h | h | h | h | h | h | h | h <;> rw [h] <;> decide) z).trans (m1.c x (by rcases hx with h | h | h | h | h | h | h | h | h | h | h | h <;> rw [h] <;> decide) (by rcases hx with h | h | h | h | h | h | h | h | h | h | h | h <;> rw [h] <;> decide) z)
    have hd := rp.done hlt hen
    unfold WF bso ben bas bbi bkA bkL bdO bkd bdR bkC at *
    rw [c 142 (by decide), c 144 (by decide), c 145 (by decide), c 146 (by decide), c 149 (by decide), c 150 (by decide), c 151 (by decide), c 152 (by decide), c 153 (by decide), c 154 (by decide), c 155 (by decide), c 156 (by decide), g43, e42]
    exact ⟨hd.1, hd.2.1, hd.2.2.1, hd.2.2.2.1, hd.2.2.2.2.1, hd.2.2.2.2.2, by omega⟩
  have k54 : ∀ (k : Nat) (s : ST) (a : Int), s0.1 143 b - a = (k : Int) → 0 ≤ a → RM b s0 s → RDC s → WF s b → s.1 143 b = s0.1 143 b → s.1 142 b = s0.1 142 b → s0.1 143 b ≤ 7 → K_X11_readDef_54 s a Q := by
    intro k
    induction k with
    | zero =>
      intro s a hk a0 r c ws x43 x42 hD
      have x29 := e29 s r
      refine s_X11_readDef_54 ?_
      rw [x29, x43]
      (repeat' (with_reducible first | refine ⟨?_, ?_⟩ | intro _))
      all_goals first | omega | exact bad s r c (by assumption) | skip
      refine c_X11_goOn c fun s3 m3 c3 => ?_
      have r3 := r.tr (RM.md m3 (by decide))
      have w3 : WF s3 b := ws.keep m3 (by decide) (by decide)
      have y29 := e29 s3 r3
      have y43 : s3.1 143 b = s0.1 143 b := by rw [m3.c 143 (by decide) (by decide)]; exact x43
      have y42 : s3.1 142 b = s0.1 142 b := by rw [m3.c 142 (by decide) (by decide)]; exact x42
      rw [y29, y43, y42]
      (repeat' (with_reducible first | refine ⟨?_, ?_⟩ | intro _))
      all_goals first | omega | skip
      have rs := RP.start w3 (by omega)
      rw [y43, y42] at rs
      have m4 : md [] [145] s3 (ui s3 145 (8 * b + s0.1 143 b) (s0.1 142 b)) := (by repeat' (first | exact md.rf | assumption | refine md.ui ?_ ?_ | refine md.uj ?_ ?_ | exact Or.inr (by decide) | exact Or.inl (by decide)))
      have r4 := (r3.ui (show RW b 145 (8 * b + s0.1 143 b) by unfold RW; omega) : RM b s0 (ui s3 145 (8 * b + s0.1 143 b) (s0.1 142 b)))
      generalize ui s3 145 (8 * b + s0.1 143 b) (s0.1 142 b) = s4 at *
      refine c_X11_readE (n := s0.1 142 b) (nD := s0.1 143 b) (by rw [m4.c 144 (by decide) (by decide)]; exact rs) hb (e29 s4 r4) (by rw [m4.c 142 (by decide) (by decide)]; exact y42) (by rw [m4.c 143 (by decide) (by decide)]; exact y43) (c3.keep m4 (by decide) (by decide)) fun s8 r8 c8 d43 h8 => ?_
      (repeat' (with_reducible first | refine ⟨?_, ?_⟩ | intro _))
      all_goals exact k177 s8 _ _ (r4.tr r8) c8 d43 hD h8
    | succ k ih =>
      intro s a hk a0 r c ws x43 x42 hD
      have x29 := e29 s r
      refine s_X11_readDef_54 ?_
      rw [x29, x43]
      (repeat' (with_reducible first | refine ⟨?_, ?_⟩ | intro _))
      all_goals first | omega | exact ih s _ (by omega) (by omega) r c ws x43 x42 hD | skip
      refine c_X11_fails (by decide) fun s' m' h' => ?_
      (repeat' (with_reducible first | refine ⟨?_, ?_⟩ | intro _))
      all_goals first | omega | skip
      exact ih s' _ (by omega) (by omega) (r.tr (RM.md m' (by decide))) (c.keep m' (by decide) (by decide)) (ws.keep m' (by decide) (by decide)) (by rw [m'.c 143 (by decide) (by decide)]; exact x43) (by rw [m'.c 142 (by decide) (by decide)]; exact x42) hD
  have k28 : ∀ s, RM b s0 s → RDC s → WF s b → s.1 143 b = s0.1 143 b → s.1 142 b = s0.1 142 b → (s.1 139 4 = 0 → s0.1 143 b ≤ 7) → K_X11_readDef_28 s Q := by
    intro s r c ws x43 x42 hD
    refine s_X11_readDef_28 ?_
    (repeat' (with_reducible first | refine ⟨?_, ?_⟩ | intro _))
    all_goals first | exact bad s r c (by assumption) | skip
    refine c_X11_goOn c fun s2 m2 c2 => ?_
    have r2 := r.tr (RM.md m2 (by decide))
    have w2 : WF s2 b := ws.keep m2 (by decide) (by decide)
    have y43 : s2.1 143 b = s0.1 143 b := by rw [m2.c 143 (by decide) (by decide)]; exact x43
    have y42 : s2.1 142 b = s0.1 142 b := by rw [m2.c 142 (by decide) (by decide)]; exact x42
    have hD' := hD (by assumption)
    (repeat' (with_reducible first | refine ⟨?_, ?_⟩ | intro _))
    · exact k54 (s0.1 143 b).toNat s2 0 (by omega) (by omega) r2 c2 w2 y43 y42 hD'
    · exact c_X11_misplaced fun s' m' h' => k54 (s0.1 143 b).toNat s' 0 (by omega) (by omega) (r2.tr (RM.md m' (by decide))) (c2.keep m' (by decide) (by decide)) (w2.keep m' (by decide) (by decide)) (by rw [m'.c 143 (by decide) (by decide)]; exact y43) (by rw [m'.c 142 (by decide) (by decide)]; exact y42) hD'
  have k24 : K_X11_readDef_24 s0 Q := s_X11_readDef_24 fun _ => c_X11_misplaced fun s' m' h' => k28 s' (RM.md m' (by decide)) (hc.keep m' (by decide) (by decide)) (w.keep m' (by decide) (by decide)) (by rw [m'.c 143 (by decide) (by decide)]) (by rw [m'.c 142 (by decide) (by decide)]) (fun e => absurd e h')
  refine s_X11_readDef ?_
  rw [h29]
  (repeat' (with_reducible first | refine ⟨?_, ?_⟩ | intro _))
  all_goals first | omega | exact k24 | exact k28 s0 .rf hc w rfl rfl (fun _ => by omega)
