/-! THE REFERENCE: layOut -/
theorem k_begin87 {M x y z : Int} {Q : ST → Int → Prop} : ∀ (m : Nat) (s : ST) (n j N0 : Int), n - j = (m : Int) → s.1 139 48 = M → (0 ≤ M ∧ M < 420) → GB s x y z → x + (n - j) ≤ 12000 → s.1 139 46 = N0 →
    (∀ s', md [(139, 46), (139, 48)] [161, 162, 163] s s' → s'.1 139 46 = N0 + (n - j) → s'.1 139 48 = M + 1 → GB s' (x + (n - j)) y z → Q s' M) → K_X11_beginsLay_87 s n j Q := by
  intro m
  induction m generalizing x with
  | zero =>
    intro s n j N0 hm hM hM2 gb hx hN hQ
    refine s_X11_beginsLay_87 ?_
    (repeat' (with_reducible first | refine ⟨?_, ?_⟩ | intro _))
    all_goals first | omega | skip
    rw [show s.1 139 48 + 1 - 1 = M by omega]
    refine hQ _ (by repeat' (first | exact md.rf | assumption | refine md.ui ?_ ?_ | refine md.uj ?_ ?_ | exact Or.inr (by decide) | exact Or.inl (by decide))) (by rw [ui_ne (by decide)]; omega) (by rw [ui_same]; omega) ((gb.keep (fs := [(139, 48)]) (cs := []) (by repeat' (first | exact md.rf | assumption | refine md.ui ?_ ?_ | refine md.uj ?_ ?_ | exact Or.inr (by decide) | exact Or.inl (by decide))) (by decide) (by decide)).le (by omega) (by omega) (by omega))
  | succ m ih =>
    intro s n j N0 hm hM hM2 gb hx hN hQ
    refine s_X11_beginsLay_87 ?_
    (repeat' (with_reducible first | refine ⟨?_, ?_⟩ | intro _))
    all_goals first | omega | skip
    refine c_X11_openTerm gb (by omega) fun s9 m9 n9 g9 => ?_
    (repeat' (with_reducible first | refine ⟨?_, ?_⟩ | intro _))
    all_goals first | omega | skip
    refine ih s9 n (j + 1) (N0 + 1) (by omega) (by rw [m9.f 139 48 (by decide) (by decide)]; exact hM) hM2 g9 (by omega) (by omega) (fun s' m' a b c => hQ s' ((m9.mono (by decide) (by decide)).tr m') (by omega) b (c.le (by omega) (by omega) (by omega)))
theorem k_begin53 {M x y z : Int} {Q : ST → Int → Prop} : ∀ (m : Nat) (s : ST) (n j N0 : Int), n - j = (m : Int) → 0 ≤ n → s.1 139 48 = M → (0 ≤ M ∧ M < 420) → GB s x y z → x + (n - j) + n ≤ 12000 → s.1 139 46 = N0 →
    (∀ s', md [(139, 46), (139, 48)] [161, 162, 163, 173] s s' → s'.1 139 46 = N0 + (n - j) + n → s'.1 139 48 = M + 1 → s'.1 173 M = N0 + (n - j) → (∀ l, l ≠ M → s'.1 173 l = s.1 173 l) → GB s' (x + (n - j) + n) y z → Q s' M) → K_X11_beginsLay_53 s n j Q := by
  intro m
  induction m generalizing x with
  | zero =>
    intro s n j N0 hm hn hM hM2 gb hx hN hQ
    refine s_X11_beginsLay_53 ?_
    (repeat' (with_reducible first | refine ⟨?_, ?_⟩ | intro _))
    all_goals first | omega | skip
    refine k_begin87 n.toNat _ n 0 N0 (by omega) (by rw [ui_cell (by decide)]; exact hM) hM2 (gb.keep (fs := []) (cs := [173]) (by repeat' (first | exact md.rf | assumption | refine md.ui ?_ ?_ | refine md.uj ?_ ?_ | exact Or.inr (by decide) | exact Or.inl (by decide))) (by decide) (by decide)) (by omega) (by rw [ui_cell (by decide)]; exact hN) (fun s' m' a b c => hQ s' ((md.rf.ui (Or.inr (by decide))).tr (m'.mono (by decide) (by decide))) (by omega) b ?_ (fun l hl => ?_) (c.le (by omega) (by omega) (by omega)))
    · rw [m'.c 173 (by decide) (by decide), hM, ui_same]; omega
    · rw [m'.c 173 (by decide) (by decide), ui_ne (by omega)]
  | succ m ih =>
    intro s n j N0 hm hn hM hM2 gb hx hN hQ
    refine s_X11_beginsLay_53 ?_
    (repeat' (with_reducible first | refine ⟨?_, ?_⟩ | intro _))
    all_goals first | omega | skip
    refine c_X11_openTerm gb (by omega) fun s9 m9 n9 g9 => ?_
    (repeat' (with_reducible first | refine ⟨?_, ?_⟩ | intro _))
    all_goals first | omega | skip
    refine ih s9 n (j + 1) (N0 + 1) (by omega) hn (by rw [m9.f 139 48 (by decide) (by decide)]; exact hM) hM2 g9 (by omega) (by omega) (fun s' m' a b c d e => hQ s' ((m9.mono (by decide) (by decide)).tr m') (by omega) b (by omega) (fun l hl => by rw [d l hl, m9.c 173 (by decide) (by decide)]) (e.le (by omega) (by omega) (by omega)))
theorem c_X11_beginsLay {s : ST} {b r o x y z : Int} {Q : ST → Int → Prop} (w : WF s b) (r0 : 0 ≤ r) (r1 : r < s.1 142 b) (hM : 0 ≤ s.1 139 48 ∧ s.1 139 48 < 420) (gb : GB s x y z) (hx : x + 2 * (s.1 150 (40 * b + r) - r + 1) ≤ 12000)
    (hQ : ∀ s', md [(139, 46), (139, 48)] [161, 162, 163, 170, 171, 172, 173] s s' → s'.1 139 46 = s.1 139 46 + 2 * (s.1 150 (40 * b + r) - r + 1) → s'.1 139 48 = s.1 139 48 + 1 → (s'.1 170 (s.1 139 48) = r ∧ s'.1 171 (s.1 139 48) = o ∧ s'.1 172 (s.1 139 48) = s.1 139 46 ∧ s'.1 173 (s.1 139 48) = s.1 139 46 + (s.1 150 (40 * b + r) - r + 1)) → (∀ l, l ≠ s.1 139 48 → s'.1 170 l = s.1 170 l ∧ s'.1 171 l = s.1 171 l ∧ s'.1 172 l = s.1 172 l ∧ s'.1 173 l = s.1 173 l) → GB s' (x + 2 * (s.1 150 (40 * b + r) - r + 1)) y z → Q s' (s.1 139 48)) : C_X11_beginsLay s b r o Q := by
  have hb := w.bb
  have hn := w.nn
  have he := w.en r0 r1
  refine s_X11_beginsLay ?_
  (repeat' (with_reducible first | refine ⟨?_, ?_⟩ | intro _))
  all_goals first | omega | skip
  refine k_begin53 (M := s.1 139 48) (s.1 150 (40 * b + r) - r + 1).toNat _ _ 0 (s.1 139 46) (by omega) (by omega) rfl hM (gb.keep (fs := []) (cs := [170, 171, 172]) (by repeat' (first | exact md.rf | assumption | refine md.ui ?_ ?_ | refine md.uj ?_ ?_ | exact Or.inr (by decide) | exact Or.inl (by decide))) (by decide) (by decide)) (by omega) rfl (fun s' m' a c d e g => hQ s' (md.tr (by repeat' (first | exact md.rf | assumption | refine md.ui ?_ ?_ | refine md.uj ?_ ?_ | exact Or.inr (by decide) | exact Or.inl (by decide))) (m'.mono (by decide) (by decide))) (by omega) c ⟨?_, ?_, ?_, by omega⟩ (fun l hl => ⟨?_, ?_, ?_, ?_⟩) (g.le (by omega) (by omega) (by omega)))
  · rw [m'.c 170 (by decide) (by decide), ui_cell (by decide), ui_cell (by decide), ui_same]
  · rw [m'.c 171 (by decide) (by decide), ui_cell (by decide), ui_same]
  · rw [m'.c 172 (by decide) (by decide), ui_same]
  · rw [m'.c 170 (by decide) (by decide), ui_cell (by decide), ui_cell (by decide), ui_ne hl]
  · rw [m'.c 171 (by decide) (by decide), ui_cell (by decide), ui_ne hl, ui_cell (by decide)]
  · rw [m'.c 172 (by decide) (by decide), ui_ne hl, ui_cell (by decide), ui_cell (by decide)]
  · rw [e l hl, ui_cell (by decide), ui_cell (by decide), ui_cell (by decide)]
/-- the lays that stand: nd of them are the defs' own -/
def LYI (s : ST) (b nd : Int) : Prop := (0 ≤ s.1 139 48 ∧ nd ≤ s.1 139 48 ∧ nd ≤ s.1 143 b) ∧ (∀ d, 0 ≤ d → d < nd → s.1 170 d = s.1 145 (8 * b + d)) ∧ ∀ l, 0 ≤ l → l < s.1 139 48 → (0 ≤ s.1 170 l ∧ s.1 170 l < s.1 142 b) ∧ (0 ≤ s.1 172 l ∧ s.1 172 l + (s.1 150 (40 * b + s.1 170 l) - s.1 170 l + 1) ≤ s.1 139 46) ∧ (0 ≤ s.1 173 l ∧ s.1 173 l + (s.1 150 (40 * b + s.1 170 l) - s.1 170 l + 1) ≤ s.1 139 46) ∧
  ((∃ d, 0 ≤ d ∧ d < s.1 143 b ∧ s.1 170 l = s.1 145 (8 * b + d)) ∨ ((0 ≤ s.1 171 l ∧ s.1 171 l < l) ∧ (s.1 170 (s.1 171 l) ≤ s.1 170 l - 1 ∧ s.1 170 l - 1 ≤ s.1 150 (40 * b + s.1 170 (s.1 171 l))) ∧ s.1 146 (40 * b + (s.1 170 l - 1)) = 4))
theorem LYI.keep {fs : List (Nat × Int)} {cs : List Nat} {s s' : ST} {b nd : Int} (h : LYI s b nd) (hm : md fs cs s s') (hN : s.1 139 46 ≤ s'.1 139 46) (h1 : (fs.all fun q => decide (q.1 ∉ 170 :: 171 :: 172 :: 173 :: bankCells) && decide (q ≠ ((139 : Nat), (48 : Int)))) = true) (h2 : (cs.all fun a => decide (a ∉ 139 :: 170 :: 171 :: 172 :: 173 :: bankCells)) = true) : LYI s' b nd := by
  have cell : ∀ a, a ∈ 170 :: 171 :: 172 :: 173 :: bankCells → ∀ t, s'.1 a t = s.1 a t := fun a ha t => (hm a t (fun q => by
    have := List.all_eq_true.mp h1 _ q
    rw [Bool.and_eq_true, decide_eq_true_eq, decide_eq_true_eq] at this
    exact this.1 ha) (fun q => by
    have := of_decide_eq_true (List.all_eq_true.mp h2 _ q)
    exact this (List.mem_cons_of_mem _ ha))).1
  have f48 : s'.1 139 48 = s.1 139 48 := (hm 139 48 (fun q => by
    have := List.all_eq_true.mp h1 _ q
    rw [Bool.and_eq_true, decide_eq_true_eq, decide_eq_true_eq] at this
    exact this.2 rfl) (fun q => by
    have := of_decide_eq_true (List.all_eq_true.mp h2 _ q)
    exact this (by decide))).1
  obtain ⟨a1, a2, a3⟩ := h
  unfold LYI
  rw [f48, cell 143 (by decide), cell 142 (by decide)]
  refine ⟨a1, fun d d0 d1 => by rw [cell 170 (by decide), cell 145 (by decide)]; exact a2 d d0 d1, fun l l0 l1 => ?_⟩
  obtain ⟨c1, c2, c3, c4⟩ := a3 l l0 l1
  rw [cell 170 (by decide) l, cell 171 (by decide), cell 172 (by decide), cell 173 (by decide), cell 150 (by decide), cell 170 (by decide), cell 150 (by decide), cell 146 (by decide)]
  refine ⟨c1, by omega, by omega, c4.elim (fun ⟨d, d0, d1, d2⟩ => Or.inl ⟨d, d0, d1, by rw [cell 145 (by decide)]; exact d2⟩) Or.inr⟩
/-- what c_X11_beginsLay leaves: one lay more -/
theorem LYI.grow {s s' : ST} {b nd r o : Int} (h : LYI s b nd) (w : WF s b) (r0 : 0 ≤ r) (r1 : r < s.1 142 b) (N0 : 0 ≤ s.1 139 46) (hm : md [(139, 46), (139, 48)] [161, 162, 163, 170, 171, 172, 173] s s') (hN : s'.1 139 46 = s.1 139 46 + 2 * (s.1 150 (40 * b + r) - r + 1)) (hM : s'.1 139 48 = s.1 139 48 + 1)
    (e1 : s'.1 170 (s.1 139 48) = r ∧ s'.1 171 (s.1 139 48) = o ∧ s'.1 172 (s.1 139 48) = s.1 139 46 ∧ s'.1 173 (s.1 139 48) = s.1 139 46 + (s.1 150 (40 * b + r) - r + 1)) (e2 : ∀ l, l ≠ s.1 139 48 → s'.1 170 l = s.1 170 l ∧ s'.1 171 l = s.1 171 l ∧ s'.1 172 l = s.1 172 l ∧ s'.1 173 l = s.1 173 l)
    (ho : (∃ d, 0 ≤ d ∧ d < s.1 143 b ∧ r = s.1 145 (8 * b + d)) ∨ ((0 ≤ o ∧ o < s.1 139 48) ∧ (s.1 170 o ≤ r - 1 ∧ r - 1 ≤ s.1 150 (40 * b + s.1 170 o)) ∧ s.1 146 (40 * b + (r - 1)) = 4)) : LYI s' b nd ∧ (nd = s.1 139 48 → nd < s.1 143 b → r = s.1 145 (8 * b + nd) → LYI s' b (nd + 1)) := by
  obtain ⟨a1, a2, a3⟩ := h
  have k : ∀ a, a ∈ bankCells → ∀ t, s'.1 a t = s.1 a t := fun a ha t => congrFun (bank_eq hm (by decide) (by decide) ha) t
  have hr := w.en r0 r1
  have main : ∀ l, 0 ≤ l → l < s.1 139 48 + 1 → (0 ≤ s'.1 170 l ∧ s'.1 170 l < s.1 142 b) ∧ (0 ≤ s'.1 172 l ∧ s'.1 172 l + (s.1 150 (40 * b + s'.1 170 l) - s'.1 170 l + 1) ≤ s'.1 139 46) ∧ (0 ≤ s'.1 173 l ∧ s'.1 173 l + (s.1 150 (40 * b + s'.1 170 l) - s'.1 170 l + 1) ≤ s'.1 139 46) ∧
      ((∃ d, 0 ≤ d ∧ d < s.1 143 b ∧ s'.1 170 l = s.1 145 (8 * b + d)) ∨ ((0 ≤ s'.1 171 l ∧ s'.1 171 l < l) ∧ (s'.1 170 (s'.1 171 l) ≤ s'.1 170 l - 1 ∧ s'.1 170 l - 1 ≤ s.1 150 (40 * b + s'.1 170 (s'.1 171 l))) ∧ s.1 146 (40 * b + (s'.1 170 l - 1)) = 4)) := by
    intro l l0 l1
    by_cases e : l = s.1 139 48
    · subst e
      rw [e1.1, e1.2.1, e1.2.2.1, e1.2.2.2]
      refine ⟨⟨r0, r1⟩, by omega, by omega, ho.elim Or.inl (fun q => Or.inr ?_)⟩
      rw [(e2 o (by omega)).1]
      exact q
    · obtain ⟨g1, g2, g3, g4⟩ := e2 l e
      obtain ⟨c1, c2, c3, c4⟩ := a3 l l0 (by omega)
      rw [g1, g2, g3, g4]
      refine ⟨c1, by omega, by omega, c4.elim Or.inl (fun q => Or.inr ?_)⟩
      rw [(e2 (s.1 171 l) (by omega)).1]
      exact q
  have fin : ∀ n', n' ≤ s.1 139 48 + 1 → n' ≤ s.1 143 b → (∀ d, 0 ≤ d → d < n' → s'.1 170 d = s.1 145 (8 * b + d)) → LYI s' b n' := by
    intro n' h1 h3 h2
    unfold LYI
    rw [hM, k 143 (by decide), k 142 (by decide)]
    refine ⟨by omega, fun d d0 d1 => by rw [k 145 (by decide)]; exact h2 d d0 d1, fun l l0 l1 => ?_⟩
    obtain ⟨c1, c2, c3, c4⟩ := main l l0 l1
    rw [k 150 (by decide), k 150 (by decide), k 146 (by decide)]
    exact ⟨c1, c2, c3, c4.elim (fun ⟨d, d0, d1, d2⟩ => Or.inl ⟨d, d0, d1, by rw [k 145 (by decide)]; exact d2⟩) Or.inr⟩
  refine ⟨fin nd (by omega) a1.2.2 (fun d d0 d1 => by rw [(e2 d (by omega)).1]; exact a2 d d0 d1), fun h1 h2 h3 => fin (nd + 1) (by omega) (by omega) (fun d d0 d1 => ?_)⟩
  by_cases e : d = nd
  · rw [e, h1, e1.1, h3, h1]
  · rw [(e2 d (by omega)).1]; exact a2 d d0 (by omega)
theorem k_layOf {s : ST} {b nd : Int} {Q : ST → Int → Prop} (w : WF s b) (ly : LYI s b nd) (hM : s.1 139 48 ≤ 420) {to : Int} (t0 : 0 ≤ to) : ∀ (m : Nat) (l p : Int), l ≤ (m : Int) → 0 ≤ l → l < s.1 139 48 → (s.1 170 l ≤ p ∧ p ≤ s.1 150 (40 * b + s.1 170 l)) → to < p → p ≤ s.1 150 (40 * b + to) → (s.1 146 (40 * b + to) = 4 → s.1 152 (3 * (40 * b + to) + 1) ≤ p) →
    (∀ a, 0 ≤ a → a < s.1 139 48 → s.1 170 a ≤ to → to ≤ s.1 150 (40 * b + s.1 170 a) → Q s a) → K_X11_layOf_3 s b to l Q := by
  have hb := w.bb
  have hn := w.nn
  intro m
  induction m with
  | zero =>
    intro l p hl l0 l1 hp h1 h2 h3 hQ
    obtain ⟨c1, c2, c3, c4⟩ := ly.2.2 l l0 l1
    have up : ¬ to < s.1 170 l := by
      intro hlt
      rcases c4 with ⟨d, d0, d1, d2⟩ | ⟨⟨c5, c6⟩, _⟩
      · have := w.sep t0 d0 d1 (by omega); omega
      · omega
    refine s_X11_layOf_3 ?_
    (repeat' (with_reducible first | refine ⟨?_, ?_⟩ | intro _))
    all_goals first | omega | exact hQ l l0 l1 (by omega) (by omega) | skip
  | succ m ih =>
    intro l p hl l0 l1 hp h1 h2 h3 hQ
    obtain ⟨c1, c2, c3, c4⟩ := ly.2.2 l l0 l1
    refine s_X11_layOf_3 ?_
    (repeat' (with_reducible first | refine ⟨?_, ?_⟩ | intro _))
    all_goals first | omega | exact hQ l l0 l1 (by omega) (by omega) | skip
    rename_i hlt
    refine s_X11_layOf_35 ?_
    (repeat' (with_reducible first | refine ⟨?_, ?_⟩ | intro _))
    all_goals first | omega | skip
    rcases c4 with ⟨d, d0, d1, d2⟩ | ⟨⟨c5, c6⟩, ⟨c7, c8⟩, c9⟩
    · have := w.sep t0 d0 d1 (by omega); omega
    · have q0 := w.en (p := s.1 170 l - 1) (by have := (ly.2.2 _ c5 (by omega)).1; omega) (by omega)
      have hto : to ≠ s.1 170 l - 1 := by
        intro e
        have h4 := h3 (by rw [e]; exact c9)
        have := w.let1 t0 (by omega) (by rw [e]; exact c9)
        rw [e] at this h4
        rw [show s.1 170 l - 1 + 1 = s.1 170 l by omega] at this
        omega
      have le1 := w.le t0 (show to < s.1 142 b by omega) (show to ≤ s.1 170 l - 1 by omega) (by omega)
      have pin : s.1 150 (40 * b + s.1 170 l) ≤ s.1 150 (40 * b + (s.1 170 l - 1)) := by
        have := w.let1 (p := s.1 170 l - 1) (by omega) (by omega) c9
        rw [show s.1 170 l - 1 + 1 = s.1 170 l by omega] at this
        omega
      refine ih (s.1 171 l) (s.1 170 l - 1) (by omega) c5 (by omega) ⟨c7, c8⟩ (by omega) (by omega) (fun e4 => ?_) hQ
      have l1' := w.let1 t0 (by omega) e4
      have h4 := h3 e4
      by_cases hh : s.1 152 (3 * (40 * b + to) + 1) ≤ s.1 170 l - 1
      · exact hh
      · have := w.le (q := to + 1) (p := s.1 170 l - 1) (by omega) (by omega) (by omega) (by omega)
        omega
