/-! THE REFERENCE: layEnds -/
def DNE (s : ST) (b : Int) (E : Int → Int) (n q p : Int) : Prop := DN s b p ∧ E p ≤ q ∧ (E p < q ∨ ∀ i, 0 ≤ i → i < n → s.1 183 i < p)
/-- the pile of places that are open at q -/
def LST (s : ST) (b : Int) (E : Int → Int) (n q : Int) : Prop := 0 ≤ n ∧ (∀ i, 0 ≤ i → i < n → i ≤ s.1 183 i ∧ s.1 183 i ≤ q ∧ q ≤ E (s.1 183 i)) ∧ (∀ i j, 0 ≤ i → i < j → j < n → s.1 183 i < s.1 183 j) ∧ ∀ p, 0 ≤ p → p ≤ q → (∃ i, (0 ≤ i ∧ i < n) ∧ s.1 183 i = p) ∨ DNE s b E n q p
theorem k_le79 {b : Int} {E : Int → Int} {Q : ST → Prop} : ∀ (m : Nat) (s : ST) (n q : Int), s.1 142 b - q = (m : Int) → 0 ≤ q → WFE s b E → (∀ p, 0 ≤ p → p < s.1 142 b → s.1 150 (40 * b + p) = E p) → (0 ≤ n ∧ (∀ i, 0 ≤ i → i < n → i ≤ s.1 183 i ∧ s.1 183 i < q ∧ q ≤ E (s.1 183 i)) ∧ (∀ i j, 0 ≤ i → i < j → j < n → s.1 183 i < s.1 183 j) ∧ ∀ p, 0 ≤ p → p < q → (∃ i, (0 ≤ i ∧ i < n) ∧ s.1 183 i = p) ∨ (DN s b p ∧ E p < q)) →
    (∀ s', md [] [150, 151, 183] s s' → (∀ z, s'.1 150 z = s.1 150 z) → (∀ z, z < 40 * b ∨ 40 * b + 40 ≤ z → s'.1 151 z = s.1 151 z) → (∀ p, 0 ≤ p → p < s.1 142 b → DN s' b p) → Q s') → K_X11_layEnds_79 s b n q Q := by
  intro m
  induction m with
  | zero =>
    intro s n q hm q0 wf hen hst hQ
    obtain ⟨n0, h1, h2, h3⟩ := hst
    obtain ⟨t1, t2, t3, t4, hb⟩ := id wf
    have nP := t2.2.1
    refine s_X11_layEnds_79 ?_
    (repeat' (with_reducible first | refine ⟨?_, ?_⟩ | intro _))
    all_goals first | omega | skip
    refine hQ s md.rf (fun _ => rfl) (fun _ _ => rfl) (fun p p0 p1 => ?_)
    rcases h3 p p0 (by omega) with ⟨i, ⟨i0, i1⟩, e⟩ | h
    · have := h1 i i0 i1
      have := (t1 _ (show 0 ≤ s.1 183 i by omega) (show s.1 183 i < s.1 142 b by omega)).2.1
      omega
    · exact h.1
  | succ m ih =>
    intro s n q hm q0 wf hen hst hQ
    obtain ⟨n0, h1, h2, h3⟩ := hst
    obtain ⟨t1, t2, t3, t4, hb⟩ := id wf
    have nP := t2.2.1
    have hnq : n ≤ q := by
      by_cases c : n = 0
      · omega
      · have := h1 (n - 1) (by omega) (by omega)
        omega
    -- the pile is taken off as long as its top ends at q
    have k99 : ∀ (r : Nat) (s2 : ST) (n2 : Int), n2 = (r : Int) → WFE s2 b E → (∀ p, 0 ≤ p → p < s2.1 142 b → s2.1 150 (40 * b + p) = E p) → s2.1 142 b = s.1 142 b → LST s2 b E n2 q → n2 ≤ q + 1 →
        (∀ s', md [] [150, 151, 183] s2 s' → (∀ z, s'.1 150 z = s2.1 150 z) → (∀ z, z < 40 * b ∨ 40 * b + 40 ≤ z → s'.1 151 z = s2.1 151 z) → (∀ p, 0 ≤ p → p < s2.1 142 b → DN s' b p) → Q s') → K_X11_layEnds_99 s2 b n2 q Q := by
      intro r
      induction r with
      | zero =>
        intro s2 n2 hr wf2 hen2 h142 hl hnq2 hQ2
        obtain ⟨l0, l1, l2, l3⟩ := hl
        refine s_X11_layEnds_99 ?_
        (repeat' (with_reducible first | refine ⟨?_, ?_⟩ | intro _))
        all_goals first | omega | skip
        refine ih s2 n2 (q + 1) (by omega) (by omega) wf2 hen2 ⟨by omega, fun i i0 i1 => by omega, fun i j i0 i1 i2 => by omega, fun p p0 p1 => ?_⟩ hQ2
        rcases l3 p p0 (by omega) with ⟨i, ⟨i0, i1⟩, e⟩ | h
        · omega
        · exact Or.inr ⟨h.1, by have := h.2.1; omega⟩
      | succ r ihr =>
        intro s2 n2 hr wf2 hen2 h142 hl hnq2 hQ2
        obtain ⟨l0, l1, l2, l3⟩ := hl
        obtain ⟨T1', T2', T3', T4', hb2⟩ := id wf2
        obtain ⟨w0, w1, w2⟩ := l1 (n2 - 1) (by omega) (by omega)
        generalize hW : s2.1 183 (n2 - 1) = w at *
        have hew := hen2 w (by omega) (by omega)
        have e46 : bso s2 b w = s2.1 146 (40 * b + w) := rfl
        refine s_X11_layEnds_99 ?_
        rw [hW]
        (repeat' (with_reducible first | refine ⟨?_, ?_⟩ | intro _))
        all_goals first | omega | skip
        · -- the top ends later: so do all below it
          rename_i c
          refine ih s2 n2 (q + 1) (by omega) (by omega) wf2 hen2 ⟨by omega, fun i i0 i1 => ?_, l2, fun p p0 p1 => ?_⟩ hQ2
          · obtain ⟨a0, a1, a2⟩ := l1 i i0 i1
            refine ⟨a0, by omega, ?_⟩
            by_cases e : i = n2 - 1
            · rw [e, hW]; omega
            · have hlt := l2 i (n2 - 1) i0 (by omega) (by omega)
              rw [hW] at hlt
              have := T1'.le (q := s2.1 183 i) (p := w) (by omega) (by omega) (by omega) (by omega)
              omega
          · rcases l3 p p0 (by omega) with h | h
            · exact Or.inl h
            · exact Or.inr ⟨h.1, by have := h.2.1; omega⟩
        · rename_i c
          have hEw : E w = q := by omega
          -- what stands within w, or is meant by it, is laid
          have inn : ∀ x, 0 ≤ x → x ≤ q → (w < x ∨ E x < q) → DN s2 b x := by
            intro x x0 x1 hx
            rcases l3 x x0 x1 with ⟨i, ⟨i0, i1⟩, e⟩ | h
            · exfalso
              have a := l1 i i0 i1
              rw [e] at a
              rcases hx with hx | hx
              · by_cases ei : i = n2 - 1
                · rw [ei, hW] at e; omega
                · have := l2 i (n2 - 1) i0 (by omega) (by omega)
                  rw [hW, e] at this; omega
              · omega
            · exact h.1
          refine c_X11_asksHere hb2 (by omega) (fun k k0 k1 => ?_) (fun e => ?_) fun v hv hv2 => ?_
          · have hk := T1'.kid (p := w) (k := k) (by omega) (by omega) k0 (by rw [e46]; exact k1)
            have ek : bkd s2 b w k = s2.1 152 (3 * (40 * b + w) + k) := rfl
            rw [ek] at hk
            have := (inn (s2.1 152 (3 * (40 * b + w) + k)) (by omega) (by omega) (Or.inl hk.1)).1
            exact ⟨by omega, this⟩
          · obtain ⟨pr, h⟩ := wf2.root (p := w) (by omega) (by omega) e
            refine ⟨pr, h.elim Or.inl (fun h => Or.inr ⟨by omega, ?_⟩)⟩
            have hE := (T1' _ h.1.1 h.1.2).2.1
            exact (inn _ h.1.1 (by omega) (Or.inr (by omega))).1
          · have m3 : md [] [150, 151, 183] s2 (ui s2 151 (40 * b + w) v) := (by repeat' (first | exact md.rf | assumption | refine md.ui ?_ ?_ | refine md.uj ?_ ?_ | exact Or.inr (by decide) | exact Or.inl (by decide)))
            have o151 : ∀ z, z ≠ 40 * b + w → (ui s2 151 (40 * b + w) v).1 151 z = s2.1 151 z := fun z hz => ui_ne hz
            have n151 : (ui s2 151 (40 * b + w) v).1 151 (40 * b + w) = v := ui_same
            have e183 : ∀ i, (ui s2 151 (40 * b + w) v).1 183 i = s2.1 183 i := fun i => ui_cell (by decide)
            have dnw : DN (ui s2 151 (40 * b + w) v) b w := by
              -- its own asks stand in no sum that they are made of
              have hks : ksum (bso (ui s2 151 (40 * b + w) v) b) (bas (ui s2 151 (40 * b + w) v) b) (bkd (ui s2 151 (40 * b + w) v) b) w = ksum (bso s2 b) (bas s2 b) (bkd s2 b) w := by
                rw [ksum_sm, ksum_sm]
                refine sm_congr _ (fun i i0 i1 => ?_)
                show (ui s2 151 (40 * b + w) v).1 151 (40 * b + (ui s2 151 (40 * b + w) v).1 152 (3 * (40 * b + w) + i)) = s2.1 151 (40 * b + s2.1 152 (3 * (40 * b + w) + i))
                rw [ui_cell (a := 152) (by decide)]
                have har := ar_r (s2.1 146 (40 * b + w))
                have i1 : i < 0 + (((ar (s2.1 146 (40 * b + w))).toNat : Nat) : Int) := i1
                have hk := T1'.kid (p := w) (k := i) (by omega) (by omega) i0 (by rw [e46]; omega)
                have ek : bkd s2 b w i = s2.1 152 (3 * (40 * b + w) + i) := rfl
                rw [ek] at hk
                exact ui_ne (by omega)
              have hex : exw (bso (ui s2 151 (40 * b + w) v) b) (bbi (ui s2 151 (40 * b + w) v) b) (bdR (ui s2 151 (40 * b + w) v) b) (bas (ui s2 151 (40 * b + w) v) b) (bkd (ui s2 151 (40 * b + w) v) b) w = exw (bso s2 b) (bbi s2 b) (bdR s2 b) (bas s2 b) (bkd s2 b) w := by
                rw [exw_raw, exw_raw]
                have eF : F_X11_rootOf (ui s2 151 (40 * b + w) v) b w = F_X11_rootOf s2 b w := rfl
                rw [eF, ui_cell (a := 146) (by decide)]
                by_cases e : s2.1 146 (40 * b + w) = 2
                · rw [if_pos e, if_pos e]
                  by_cases d : F_X11_rootOf s2 b w < 0
                  · rw [if_pos d, if_pos d]
                  · rw [if_neg d, if_neg d]
                    obtain ⟨_, h⟩ := wf2.root (p := w) (by omega) (by omega) e
                    rcases h with h | h
                    · exact absurd h d
                    · have hE := (T1' _ h.1.1 h.1.2).2.1
                      exact ui_ne (by omega)
                · rw [if_neg e, if_neg e]
              unfold DN
              rw [n151, hks, hex]
              exact ⟨hv, hv2⟩
            refine ihr (ui s2 151 (40 * b + w) v) (n2 - 1) (by omega) (wf2.keep m3) (fun p p0 p1 => by rw [ui_cell (by decide)]; exact hen2 p p0 (by rw [ui_cell (by decide)] at p1; exact p1)) (by rw [ui_cell (by decide)]; exact h142) ⟨by omega, fun i i0 i1 => by rw [e183]; exact l1 i i0 (by omega), fun i j i0 i1 i2 => by rw [e183, e183]; exact l2 i j i0 i1 (by omega), fun p p0 p1 => ?_⟩ (by omega) (fun s' m' z1 z2 d1 => hQ2 s' (m3.tr m') (fun z => by rw [z1, ui_cell (by decide)]) (fun z hz => by rw [z2 z hz, o151 z (by omega)]) (by rw [ui_cell (by decide)] at d1; exact d1))
            by_cases ep : p = w
            · rw [ep]
              refine Or.inr ⟨dnw, by omega, Or.inr (fun i i0 i1 => ?_)⟩
              rw [e183]
              have := l2 i (n2 - 1) i0 (by omega) (by omega)
              rw [hW] at this
              exact this
            · rcases l3 p p0 p1 with ⟨i, ⟨i0, i1⟩, e⟩ | ⟨hd, he, ho⟩
              · refine Or.inl ⟨i, ⟨i0, ?_⟩, by rw [e183]; exact e⟩
                by_cases ei : i = n2 - 1
                · rw [ei, hW] at e; exact absurd e.symm ep
                · omega
              · have hwp : w < p ∨ E p < q := by
                  rcases ho with h | h
                  · exact Or.inr h
                  · have := h (n2 - 1) (by omega) (by omega)
                    rw [hW] at this
                    exact Or.inl this
                refine Or.inr ⟨hd.keep m3 o151 (fun h => ep h.symm) (fun k k0 k1 => ?_) (fun e1 e2 => ?_), he, ?_⟩
                · have hk := T1'.kid (p := p) (k := k) p0 (by omega) k0 (show k < ar (bso s2 b p) from k1)
                  have ek : bkd s2 b p k = s2.1 152 (3 * (40 * b + p) + k) := rfl
                  rw [ek] at hk
                  intro hh
                  rw [← hh] at hk
                  omega
                · obtain ⟨_, h⟩ := wf2.root (p := p) p0 (by omega) e1
                  intro hh
                  rcases h with h | h
                  · omega
                  · rw [← hh] at h; omega
                · rcases ho with h | h
                  · exact Or.inl h
                  · exact Or.inr (fun i i0 i1 => by rw [e183]; exact h i i0 (by omega))
    have hEq := (t1 q q0 (by omega)).2.1
    refine s_X11_layEnds_79 ?_
    (repeat' (with_reducible first | refine ⟨?_, ?_⟩ | intro _))
    all_goals first | omega | skip
    have m2 : md [] [150, 151, 183] s (ui s 183 n q) := (by repeat' (first | exact md.rf | assumption | refine md.ui ?_ ?_ | refine md.uj ?_ ?_ | exact Or.inr (by decide) | exact Or.inl (by decide)))
    have o183 : ∀ i, i < n → (ui s 183 n q).1 183 i = s.1 183 i := fun i hi => ui_ne (by omega)
    have n183 : (ui s 183 n q).1 183 n = q := ui_same
    have dn2 : ∀ p, DN s b p → DN (ui s 183 n q) b p := fun p h => h
    refine k99 (n + 1).toNat _ (n + 1) (by omega) (wf.keep m2) (fun p p0 p1 => by rw [ui_cell (by decide)]; exact hen p p0 (by rw [ui_cell (by decide)] at p1; exact p1)) (ui_cell (by decide)) ⟨by omega, fun i i0 i1 => ?_, fun i j i0 i1 i2 => ?_, fun p p0 p1 => ?_⟩ (by omega) (fun s' m' z1 z2 d1 => hQ s' (m2.tr m') (fun z => by rw [z1, ui_cell (by decide)]) (fun z hz => by rw [z2 z hz, ui_cell (by decide)]) (by rw [ui_cell (by decide)] at d1; exact d1))
    · by_cases e : i = n
      · rw [e, n183]; omega
      · rw [o183 i (by omega)]
        have := h1 i i0 (by omega)
        omega
    · rw [o183 i (by omega)]
      by_cases e : j = n
      · rw [e, n183]; exact (h1 i i0 (by omega)).2.1
      · rw [o183 j (by omega)]; exact h2 i j i0 i1 (by omega)
    · by_cases e : p = q
      · exact Or.inl ⟨n, ⟨n0, by omega⟩, by rw [n183, e]⟩
      · rcases h3 p p0 (by omega) with ⟨i, ⟨i0, i1⟩, e2⟩ | ⟨a1, a2⟩
        · exact Or.inl ⟨i, ⟨i0, by omega⟩, by rw [o183 i i1]; exact e2⟩
        · exact Or.inr ⟨dn2 p a1, by omega, Or.inl a2⟩
theorem k_le9 {b : Int} {E : Int → Int} {Q : ST → Prop} : ∀ (m : Nat) (s : ST) (q : Int), q + 1 = (m : Int) → q < s.1 142 b → WFE s b E → (∀ p, q < p → p < s.1 142 b → s.1 150 (40 * b + p) = E p) →
    (∀ s', md [] [150, 151, 183] s s' → (∀ p, 0 ≤ p → p < s.1 142 b → s'.1 150 (40 * b + p) = E p) → (∀ z, z < 40 * b ∨ 40 * b + 40 ≤ z → s'.1 150 z = s.1 150 z ∧ s'.1 151 z = s.1 151 z) → (∀ p, 0 ≤ p → p < s.1 142 b → DN s' b p) → Q s') → K_X11_layEnds_9 s b q Q := by
  intro m
  induction m with
  | zero =>
    intro s q hm hq wf hen hQ
    obtain ⟨t1, t2, t3, t4, hb⟩ := id wf
    have nP := t2.2.1
    refine s_X11_layEnds_9 ?_
    (repeat' (with_reducible first | refine ⟨?_, ?_⟩ | intro _))
    all_goals first | omega | skip
    exact k_le79 (s.1 142 b).toNat s 0 0 (by omega) (by omega) wf (fun p p0 p1 => hen p (by omega) p1) ⟨by omega, fun i _ _ => by omega, fun i j _ _ _ => by omega, fun p p0 p1 => by omega⟩ (fun s' m' z1 z2 d1 => hQ s' m' (fun p p0 p1 => by rw [z1]; exact hen p (by omega) p1) (fun z hz => ⟨z1 z, z2 z hz⟩) d1)
  | succ m ih =>
    intro s q hm hq wf hen hQ
    obtain ⟨t1, t2, t3, t4, hb⟩ := id wf
    have nP := t2.2.1
    have har := ar_r (s.1 146 (40 * b + q))
    have eA : F_X11_kidsOf s (s.1 146 (40 * b + q)) = ar (s.1 146 (40 * b + q)) := rfl
    have e46 : bso s b q = s.1 146 (40 * b + q) := rfl
    have k68 : ∀ v, v = E q → K_X11_layEnds_68 s b q (40 * b + q) v Q := by
      intro v hv
      refine s_X11_layEnds_68 ?_
      (repeat' (with_reducible first | refine ⟨?_, ?_⟩ | intro _))
      all_goals first | omega | skip
      have m2 : md [] [150, 151, 183] s (ui s 150 (40 * b + q) v) := (by repeat' (first | exact md.rf | assumption | refine md.ui ?_ ?_ | refine md.uj ?_ ?_ | exact Or.inr (by decide) | exact Or.inl (by decide)))
      refine ih _ (q - 1) (by omega) (by rw [ui_cell (by decide)]; omega) (wf.keep m2) (fun p p0 p1 => ?_) (fun s' m' z1 z2 d1 => hQ s' (m2.tr m') (by rw [ui_cell (by decide)] at z1; exact z1) (fun z hz => ?_) (by rw [ui_cell (by decide)] at d1; exact d1))
      · rw [ui_cell (by decide)] at p1
        by_cases e : p = q
        · rw [e, ui_same]; exact hv
        · rw [ui_ne (by omega)]; exact hen p (by omega) p1
      · rw [(z2 z hz).1, (z2 z hz).2, ui_ne (by omega), ui_cell (by decide)]; exact ⟨rfl, rfl⟩
    have hq1 := t1 q (by omega) hq
    have kd : ∀ k, 0 ≤ k → k < ar (s.1 146 (40 * b + q)) → q < s.1 152 (3 * (40 * b + q) + k) ∧ s.1 152 (3 * (40 * b + q) + k) < s.1 142 b := fun k k0 k1 => by
      have hk := t1.kid (p := q) (k := k) (by omega) hq k0 (by rw [e46]; exact k1)
      have ek : bkd s b q k = s.1 152 (3 * (40 * b + q) + k) := rfl
      rw [ek] at hk
      exact ⟨hk.1, hk.2.2.2⟩
    have last : 1 ≤ ar (s.1 146 (40 * b + q)) → E (s.1 152 (3 * (40 * b + q) + ar (s.1 146 (40 * b + q)) - 1)) = E q := by
      intro h1
      have ek : ∀ k, bkd s b q k = s.1 152 (3 * (40 * b + q) + k) := fun _ => rfl
      rw [e46, ek, ek, ek] at hq1
      have ha : ar (s.1 146 (40 * b + q)) = 1 ∨ ar (s.1 146 (40 * b + q)) = 2 ∨ ar (s.1 146 (40 * b + q)) = 3 := by omega
      rcases ha with h | h | h
      · rw [h, show 3 * (40 * b + q) + 1 - 1 = 3 * (40 * b + q) + 0 by omega]; exact (hq1.2.2.2.2.1 h).symm
      · rw [h, show 3 * (40 * b + q) + 2 - 1 = 3 * (40 * b + q) + 1 by omega]; exact (hq1.2.2.2.2.2.2.1 h).symm
      · rw [h, show 3 * (40 * b + q) + 3 - 1 = 3 * (40 * b + q) + 2 by omega]; exact (hq1.2.2.2.2.2.2.2 h).2.symm
    refine s_X11_layEnds_9 ?_
    rw [eA]
    by_cases c0 : ar (s.1 146 (40 * b + q)) = 0
    · (repeat' (with_reducible first | refine ⟨?_, ?_⟩ | intro _))
      all_goals first | omega | skip
      exact k68 _ (hq1.2.2.1 (by rw [e46]; exact c0)).symm
    · have hl := kd (ar (s.1 146 (40 * b + q)) - 1) (by omega) (by omega)
      rw [show 3 * (40 * b + q) + (ar (s.1 146 (40 * b + q)) - 1) = 3 * (40 * b + q) + ar (s.1 146 (40 * b + q)) - 1 by omega] at hl
      (repeat' (with_reducible first | refine ⟨?_, ?_⟩ | intro _))
      all_goals first | omega | skip
      refine k68 _ ?_
      rw [hen _ (by omega) hl.2]
      exact last (by omega)
theorem c_X11_layEnds {s : ST} {b : Int} {E : Int → Int} {Q : ST → Prop} (wf : WFE s b E) (hQ : ∀ s', md [] [150, 151, 183] s s' → (∀ p, 0 ≤ p → p < s.1 142 b → s'.1 150 (40 * b + p) = E p) → (∀ z, z < 40 * b ∨ 40 * b + 40 ≤ z → s'.1 150 z = s.1 150 z ∧ s'.1 151 z = s.1 151 z) → (∀ p, 0 ≤ p → p < s.1 142 b → DN s' b p) → Q s') : C_X11_layEnds s b Q := by
  obtain ⟨t1, t2, t3, t4, hb⟩ := id wf
  have nP := t2.2.1
  refine s_X11_layEnds ?_
  (repeat' (with_reducible first | refine ⟨?_, ?_⟩ | intro _))
  all_goals first | omega | skip
  exact k_le9 (s.1 142 b).toNat s (s.1 142 b - 1) (by omega) (by omega) wf (fun p p0 p1 => by omega) hQ
