/-! THE REFERENCE: an e written anew -/
def nv (f : Int → Int) (r : Int) : Int := if r < 0 ∨ 100 ≤ r then r else f r
def nb (s0 : ST) (b p c its q : Int) : Int := nbr (bbi s0 b) p c its q
def ns (s0 : ST) (b p c q : Int) : Int := nso (bso s0 b) p c q
def nz (s0 : ST) (b p c q : Int) : Int := nsz (ben s0 b) p c q
def nk (s0 : ST) (b p c q k : Int) : Int := kb (bso s0 b) (bkd s0 b) p c q k
def n2 (s0 : ST) (b p c q : Int) (k : Nat) : Int := ns2 (bso s0 b) (ben s0 b) (bkd s0 b) p c q k
/-- what is fixed while a program is written anew -/
def CX (s0 : ST) (b p c w its : Int) : Prop := (0 ≤ b ∧ b ≤ 1) ∧ WF s0 b ∧ (0 ≤ p ∧ p < s0.1 142 b) ∧ CG (bso s0 b) p c ∧ (c = 1 → (0 ≤ w ∧ w < 40) ∧ ((0 ≤ its ∧ its < p ∧ p ≤ s0.1 150 (40 * b + its)) ∧ (s0.1 146 (40 * b + its) = 3 ∨ s0.1 146 (40 * b + its) = 4 ∧ s0.1 152 (3 * (40 * b + its) + 1) ≤ p) ∨ (100 ≤ its ∧ its - 100 < s0.1 149 (40 * b + p))))
def SC (s0 : ST) (b c w its : Int) (s : ST) : Prop := s.1 139 28 = b ∧ (c = 1 → s.1 187 w = its) ∧ (∀ z, 120 * b ≤ z → z < 120 * b + 120 → s.1 152 z = s0.1 152 z) ∧ (∀ z, 40 * b ≤ z → z < 40 * b + 40 → s.1 150 z = s0.1 150 z) ∧ ∀ z, 40 * b ≤ z → z < 40 * b + 40 → s.1 146 z = s0.1 146 z ∧ s.1 149 z = s0.1 149 z ∧ s.1 153 z = s0.1 153 z ∧ s.1 154 z = s0.1 154 z ∧ s.1 155 z = s0.1 155 z
theorem CX.nb_ok {s0 : ST} {b p c w its : Int} (h : CX s0 b p c w its) {q : Int} (q0 : 0 ≤ q) (q1 : q < s0.1 142 b) : nb s0 b p c its q < 0 ∨ 100 ≤ nb s0 b p c its q ∨ (0 ≤ nb s0 b p c its q ∧ nb s0 b p c its q < q ∧ q ≤ s0.1 150 (40 * b + nb s0 b p c its q)) := by
  obtain ⟨h1, h2, h3, h4, h5⟩ := h
  have base : s0.1 153 (40 * b + q) < 0 ∨ 100 ≤ s0.1 153 (40 * b + q) ∨ (0 ≤ s0.1 153 (40 * b + q) ∧ s0.1 153 (40 * b + q) < q ∧ q ≤ s0.1 150 (40 * b + s0.1 153 (40 * b + q))) := by
    by_cases e : s0.1 146 (40 * b + q) = 2
    · by_cases d : s0.1 153 (40 * b + q) < 100
      · exact Or.inr (Or.inr ((h2.name q0 q1 e).1 d).1)
      · exact Or.inr (Or.inl (by omega))
    · have := h2.noname q0 q1 e
      exact Or.inl (by omega)
  have e : nb s0 b p c its q = if q = p then (if c = 0 then s0.1 153 (40 * b + q) else if c = 1 then its else -1) else s0.1 153 (40 * b + q) := rfl
  by_cases e1 : q = p
  · rw [if_pos e1] at e
    by_cases c0 : c = 0
    · rw [if_pos c0] at e; rw [e]; exact base
    · rw [if_neg c0] at e
      by_cases c1 : c = 1
      · rw [if_pos c1] at e
        rw [e]
        rcases (h5 c1).2 with ⟨h, _⟩ | h
        · rw [e1]; exact Or.inr (Or.inr h)
        · exact Or.inr (Or.inl h.1)
      · rw [if_neg c1] at e
        exact Or.inl (by omega)
  · rw [if_neg e1] at e; rw [e]; exact base
theorem F_kb {s : ST} {b q k p c : Int} (hb : s.1 139 28 = b) : F_X11_kidBy s q k p c = kb (bso s b) (bkd s b) p c q k := by
  subst hb
  unfold F_X11_kidBy kb bso bkd
  by_cases e5 : s.1 146 (40 * s.1 139 28 + q) = 5
  · rw [if_pos e5, if_pos e5]
    by_cases k0 : k = 0
    · rw [if_pos k0, if_pos k0, k0]
      by_cases e : q = p
      · rw [if_pos e]
        by_cases d : c = 0
        · rw [if_pos d]
        · rw [if_neg d]
      · rw [if_neg e]
    · rw [if_neg k0, if_neg k0]
      by_cases e : q = p
      · rw [if_pos e]
        by_cases d : c = 0
        · rw [if_pos d, if_pos ⟨e, d⟩]
        · rw [if_neg d, if_neg (fun h => d h.2)]
      · rw [if_neg e, if_neg (fun h => e h.1)]
  · rw [if_neg e5, if_neg e5]
    by_cases e : q = p
    · rw [if_pos e]
      by_cases d : c = 0
      · rw [if_pos d, if_pos ⟨e, d⟩]
      · rw [if_neg d, if_neg (fun h => d h.2)]
    · rw [if_neg e, if_neg (fun h => e h.1)]
theorem P_kb {s : ST} {b q k p c : Int} (hb : s.1 139 28 = b) (b01 : 0 ≤ b ∧ b ≤ 1) (hq : 0 ≤ q ∧ q < 40) (hk : 0 ≤ k ∧ k ≤ 2) (h2 : q = p → c = 0 → s.1 146 (40 * b + q) ≠ 5 → k ≤ 1) : P_X11_kidBy s q k p c := by
  subst hb
  (repeat' (with_reducible first | refine ⟨?_, ?_⟩ | intro _))
  all_goals omega
/-- one place is taken from the pile and put down -/
theorem k158_pop {s0 s : ST} {b p c w its d n q : Int} {Q : ST → Prop} (cx : CX s0 b p c w its) (sc : SC s0 b c w its s) (hn : 1 ≤ n ∧ n ≤ 42) (hq : s.1 183 (n - 1) = q) (q0 : 0 ≤ q) (q1 : q < s0.1 142 b) (ho : 0 ≤ s.1 142 2 ∧ s.1 142 2 < 40)
    (hQ : ∀ s', PUT s s' q (ns s0 b p c q) (s0.1 149 (40 * b + q)) (s0.1 154 (40 * b + q)) (s0.1 155 (40 * b + q)) (nv (s.1 182) (nb s0 b p c its q)) → K_X11_change_197 s' p c w d (n - 1) q Q) : K_X11_change_158 s p c w d n Q := by
  have nbq := cx.nb_ok q0 q1
  obtain ⟨h1, h2, h3, h4, h5⟩ := id cx
  obtain ⟨g1, g2, g3, g4, g5⟩ := id sc
  have nn := h2.nn
  obtain ⟨e46, e49, e53, e54, e55⟩ := g5 (40 * b + q) (by omega) (by omega)
  have hc : 0 ≤ c ∧ c ≤ 4 := h4.1
  have hns : ns s0 b p c q = if q = p then (if c = 2 then 1 else if c = 3 then 0 else if c = 4 then 10 else s0.1 146 (40 * b + q)) else s0.1 146 (40 * b + q) := rfl
  have hnb : nb s0 b p c its q = if q = p then (if c = 0 then s0.1 153 (40 * b + q) else if c = 1 then its else -1) else s0.1 153 (40 * b + q) := rfl
  have base : s0.1 153 (40 * b + q) < 0 ∨ 100 ≤ s0.1 153 (40 * b + q) ∨ (0 ≤ s0.1 153 (40 * b + q) ∧ s0.1 153 (40 * b + q) < q) := by
    by_cases e : s0.1 146 (40 * b + q) = 2
    · by_cases dd : s0.1 153 (40 * b + q) < 100
      · have := ((h2.name q0 q1 e).1 dd).1
        exact Or.inr (Or.inr ⟨this.1, this.2.1⟩)
      · exact Or.inr (Or.inl (by omega))
    · have := h2.noname q0 q1 e
      exact Or.inl (by omega)
  refine s_X11_change_158 ?_
  rw [hq]
  (repeat' (with_reducible first | refine ⟨?_, ?_⟩ | intro _))
  all_goals first | omega | skip
  refine c_X11_takes g1 h1 (by omega) ho (by rw [e53]; omega) fun s1 m1 => ?_
  rw [e46, e49, e53, e54, e55] at m1
  have plain : (q = p → c = 0) → PUT s s1 q (ns s0 b p c q) (s0.1 149 (40 * b + q)) (s0.1 154 (40 * b + q)) (s0.1 155 (40 * b + q)) (nv (s.1 182) (nb s0 b p c its q)) := by
    intro hpc
    have e1 : ns s0 b p c q = s0.1 146 (40 * b + q) := by
      rw [hns]
      by_cases e : q = p
      · have := hpc e
        rw [if_pos e, if_neg (by omega), if_neg (by omega), if_neg (by omega)]
      · rw [if_neg e]
    have e2 : nb s0 b p c its q = s0.1 153 (40 * b + q) := by
      rw [hnb]
      by_cases e : q = p
      · rw [if_pos e, if_pos (hpc e)]
      · rw [if_neg e]
    rw [e1, e2]
    exact m1
  (repeat' (with_reducible first | refine ⟨?_, ?_⟩ | intro _))
  all_goals first | omega | exact hQ _ (plain (fun e => by omega)) | skip
  rename_i e c0
  have c0 : 1 ≤ c := by omega
  obtain ⟨m11, m12, m13, m14, ⟨m15, m16, m17, m18, m19⟩, mz⟩ := id m1
  have f28 : s1.1 139 28 = b := by rw [m11.f 139 28 (by decide) (by decide)]; exact g1
  have i87 : c = 1 → s1.1 187 w = its := fun h => by rw [m11.c 187 (by decide) (by decide)]; exact g2 h
  refine c_X11_changed (by omega) (by omega) (by omega) (fun h => ?_) fun s2 m2 => hQ s2 ?_
  · rw [i87 h]
    have := h5 h
    have := h2.dO h3.1 h3.2
    omega
  · obtain ⟨m21, m22, m23, m24⟩ := m2
    have eo : 80 + s1.1 142 2 - 1 = 80 + s.1 142 2 := by omega
    rw [eo] at m22 m23 m24
    have ens : ns s0 b p c q = (if c = 1 then s1.1 146 (80 + s.1 142 2) else if c = 2 then 1 else if c = 3 then 0 else 10) := by
      rw [hns, if_pos e]
      by_cases x1 : c = 1
      · rw [if_neg (by omega), if_neg (by omega), if_neg (by omega), if_pos x1, m15]
      · rw [if_neg x1]
        by_cases x2 : c = 2
        · rw [if_pos x2, if_pos x2]
        · rw [if_neg x2, if_neg x2]
          by_cases x3 : c = 3
          · rw [if_pos x3, if_pos x3]
          · rw [if_neg x3, if_neg x3, if_pos (by omega)]
    have env : nv (s.1 182) (nb s0 b p c its q) = (if c = 1 then (if s1.1 187 w < 100 then s1.1 182 (s1.1 187 w) else s1.1 187 w) else -1) := by
      rw [hnb, if_pos e, if_neg (by omega)]
      by_cases x1 : c = 1
      · rw [if_pos x1, if_pos x1, i87 x1]
        have := h5 x1
        unfold nv
        by_cases y : its < 100
        · rw [if_neg (by omega), if_pos y, m14 its (by omega)]
        · rw [if_pos (by omega), if_neg y]
      · rw [if_neg x1, if_neg x1]
        unfold nv
        rw [if_pos (by omega)]
    rw [ens, env]
    refine ⟨m11.tr (m21.mono (by decide) (by decide)), ?_, ?_, fun r hr => ?_, ⟨m22, ?_, ?_, ?_, m23⟩, fun z hz => ?_⟩
    · rw [m21.c 142 (by decide) (by decide)]; exact m12
    · rw [m21.c 182 (by decide) (by decide)]; exact m13
    · rw [m21.c 182 (by decide) (by decide)]; exact m14 r hr
    · rw [m21.c 149 (by decide) (by decide)]; exact m16
    · rw [m21.c 154 (by decide) (by decide)]; exact m17
    · rw [m21.c 155 (by decide) (by decide)]; exact m18
    · obtain ⟨z1, z2, z3, z4, z5, z6⟩ := mz z hz
      obtain ⟨y1, y2, y3⟩ := m24 z hz
      rw [y1, y2, y3, m21.c 149 (by decide) (by decide), m21.c 154 (by decide) (by decide), m21.c 155 (by decide) (by decide)]
      exact ⟨z1, z2, z3, z4, z5, z6⟩
/-- the e's of a place put down are piled, the first on top -/
theorem k219 {s0 : ST} {b p c w its d q : Int} {Q : ST → Prop} (cx : CX s0 b p c w its) (q0 : 0 ≤ q) (q1 : q < s0.1 142 b) : ∀ (m : Nat) (s : ST) (n j : Int), j + 1 = (m : Int) → j < ar (ns s0 b p c q) → 0 ≤ n → n + (j + 1) ≤ 42 → SC s0 b c w its s →
    (∀ s', md [] [183] s s' → (∀ i, i < n → s'.1 183 i = s.1 183 i) → (∀ k, 0 ≤ k → k ≤ j → s'.1 183 (n + j - k) = nk s0 b p c q k) → K_X11_change_158 s' p c w d (n + (j + 1)) Q) → K_X11_change_219 s p c w d n q j Q := by
  obtain ⟨h1, h2, h3, h4, h5⟩ := id cx
  have nn := h2.nn
  intro m
  induction m with
  | zero =>
    intro s n j hm hj n0 n1 sc hQ
    refine s_X11_change_219 ?_
    (repeat' (with_reducible first | refine ⟨?_, ?_⟩ | intro _))
    all_goals first | omega | skip
    have := hQ s md.rf (fun _ _ => rfl) (fun k _ _ => by omega)
    rw [show n + (j + 1) = n by omega] at this
    exact this
  | succ m ih =>
    intro s n j hm hj n0 n1 sc hQ
    obtain ⟨g1, g2, g3, g4, g5⟩ := id sc
    have har : ar (ns s0 b p c q) = ar (s0.1 146 (40 * b + q)) := by
      rcases nso_ar h4 q with ⟨_, _, h⟩ | ⟨h, _⟩
      · have : ar (ns s0 b p c q) = 0 := h
        omega
      · exact h
    have hr := ar_r (s0.1 146 (40 * b + q))
    have e46 := (g5 (40 * b + q) (by omega) (by omega)).1
    have two : q = p → c = 0 → s0.1 146 (40 * b + q) ≠ 5 → j ≤ 1 := by
      intro x1 x2 x3
      have : ar (s0.1 146 (40 * b + q)) = 2 := by
        rw [x1] at x3 ⊢
        rcases h4.2.1 x2 with h | h | h | h | h | h
        · have h : s0.1 146 (40 * b + p) = 6 := h
          rw [h]; decide
        · have h : s0.1 146 (40 * b + p) = 7 := h
          rw [h]; decide
        · have h : s0.1 146 (40 * b + p) = 11 := h
          rw [h]; decide
        · have h : s0.1 146 (40 * b + p) = 14 := h
          rw [h]; decide
        · have h : s0.1 146 (40 * b + p) = 15 := h
          rw [h]; decide
        · exact absurd h x3
      omega
    have ek : F_X11_kidBy s q j p c = nk s0 b p c q j := by
      rw [F_kb g1]
      refine kb_eq (by show s.1 146 _ = s0.1 146 _; exact e46) ⟨by omega, by omega⟩ two (fun i i0 i1 => ?_)
      show s.1 152 (3 * (40 * b + q) + i) = s0.1 152 (3 * (40 * b + q) + i)
      exact g3 _ (by omega) (by omega)
    refine s_X11_change_219 ?_
    refine fun _ _ _ _ _ _ _ _ => ⟨fun h => absurd h (by omega), fun _ => ⟨P_kb g1 h1 (by omega) (by omega) (fun x1 x2 x3 => ?_), ?_⟩⟩
    · rw [e46] at x3
      have : ar (s0.1 146 (40 * b + q)) = 2 := by
        rw [x1] at x3 ⊢
        rcases h4.2.1 x2 with h | h | h | h | h | h
        · have h : s0.1 146 (40 * b + p) = 6 := h
          rw [h]; decide
        · have h : s0.1 146 (40 * b + p) = 7 := h
          rw [h]; decide
        · have h : s0.1 146 (40 * b + p) = 11 := h
          rw [h]; decide
        · have h : s0.1 146 (40 * b + p) = 14 := h
          rw [h]; decide
        · have h : s0.1 146 (40 * b + p) = 15 := h
          rw [h]; decide
        · exact absurd h x3
      omega
    · (repeat' (with_reducible first | refine ⟨?_, ?_⟩ | intro _))
      all_goals first | omega | skip
      rw [ek]
      have m9 : md [] [183] s (ui s 183 n (nk s0 b p c q j)) := (by repeat' (first | exact md.rf | assumption | refine md.ui ?_ ?_ | refine md.uj ?_ ?_ | exact Or.inr (by decide) | exact Or.inl (by decide)))
      refine ih _ (n + 1) (j - 1) (by omega) (by omega) (by omega) (by omega) ⟨by rw [m9.f 139 28 (by decide) (by decide)]; exact g1, g2, g3, g4, g5⟩ (fun s' m' a1 a2 => ?_)
      rw [show n + 1 + (j - 1 + 1) = n + (j + 1) by omega]
      refine hQ s' (m9.tr m') (fun i hi => by rw [a1 i (by omega), ui_ne (by omega)]) (fun k k0 k1 => ?_)
      by_cases e : k = j
      · rw [e, show n + j - j = n by omega, a1 n (by omega), ui_same]
      · have := a2 k k0 (by omega)
        rw [show n + 1 + (j - 1) - k = n + j - k by omega] at this
        exact this
