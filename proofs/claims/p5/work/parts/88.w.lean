/-! THE REFERENCE: questions of the bank that stands: fits, clashes, kind, meets, core -/
def BK (s : ST) : Prop := (0 ≤ s.1 139 28 ∧ s.1 139 28 ≤ 1) ∧ LV s (s.1 139 28)
def LAID (s : ST) : Prop := s.1 139 49 = s.1 139 28 ∧ TI s ∧ LYI s (s.1 139 28) (s.1 143 (s.1 139 28))
def LD (s : ST) : Prop := s.1 139 49 = s.1 139 28 → TI s ∧ LYI s (s.1 139 28) (s.1 143 (s.1 139 28))
theorem LAID.ld {s : ST} (h : LAID s) : LD s := fun _ => h.2
/-- what questions change -/
def qF : List (Nat × Int) := [(139, 46), (139, 47), (139, 48), (139, 49), (139, 50), (139, 51)]
def qC : List Nat := [161, 162, 163, 164, 165, 166, 167, 168, 169, 170, 171, 172, 173, 174, 175]
theorem BK.keep {fs : List (Nat × Int)} {cs : List Nat} {s s' : ST} (h : BK s) (hm : md fs cs s s') (h1 : (fs.all fun q => decide (q.1 ∉ bankCells) && decide (q ≠ ((139 : Nat), (28 : Int)))) = true) (h2 : (cs.all fun a => decide (a ∉ 139 :: bankCells)) = true) : BK s' := by
  have f28 : s'.1 139 28 = s.1 139 28 := (hm 139 28 (fun q => by
    have := List.all_eq_true.mp h1 _ q
    rw [Bool.and_eq_true, decide_eq_true_eq, decide_eq_true_eq] at this
    exact this.2 rfl) (fun q => (of_decide_eq_true (List.all_eq_true.mp h2 _ q)) (by decide))).1
  unfold BK
  rw [f28]
  refine ⟨h.1, h.2.keep hm ?_ ?_⟩
  · rw [List.all_eq_true] at h1 ⊢
    intro q hq
    have := h1 q hq
    rw [Bool.and_eq_true] at this
    exact this.1
  · rw [List.all_eq_true] at h2 ⊢
    intro q hq
    have := of_decide_eq_true (h2 q hq)
    exact decide_eq_true (fun h => this (List.mem_cons_of_mem _ h))
theorem LAID.keep {s s' : ST} (h : LAID s) (hm : md [] [164, 165, 166, 174, 175] s s') : LAID s' := by
  obtain ⟨h1, h2, h3⟩ := h
  have e46 := hm.f 139 46 (by decide) (by decide)
  unfold LAID
  rw [hm.f 139 49 (by decide) (by decide), hm.f 139 28 (by decide) (by decide), hm.c 143 (by decide) (by decide)]
  refine ⟨h1, ?_, h3.keep hm (by omega) (by decide) (by decide)⟩
  obtain ⟨g1, g2, g3, g4⟩ := h2
  unfold TI
  rw [e46, hm.f 139 47 (by decide) (by decide), bins_eq (fun t => hm.c 161 (by decide) (by decide) t)]
  refine ⟨g1.keep hm (by decide) (by decide) (by decide) (by decide) (by decide) (by decide), g2, g3, fun k a b => ?_⟩
  rw [hm.c 168 (by decide) (by decide), hm.c 169 (by decide) (by decide)]
  exact g4 k a b
theorem c_X11_layNow {s : ST} {Q : ST → Prop} (hb : BK s) (hl : LD s) (hQ : ∀ s', md qF qC s s' → LAID s' → Q s') : C_X11_layNow s Q := by
  refine s_X11_layNow ?_
  (repeat' (with_reducible first | refine ⟨?_, ?_⟩ | intro _))
  · rename_i e
    exact hQ s md.rf ⟨e, hl e⟩
  · refine c_X11_layOut hb.2 fun s' m' e' t' l' => ?_
    have f28 := m'.f 139 28 (by decide) (by decide)
    refine hQ s' (m'.mono (by decide) (by decide)) ⟨by omega, t', ?_⟩
    rw [f28]; exact l'
theorem Pall {s : ST} (hb : BK s) : P_X11_allPlaces s := by
  have := hb.1
  (repeat' (with_reducible first | refine ⟨?_, ?_⟩ | intro _))
  all_goals omega
theorem c_X11_fits {s : ST} {Q : ST → Int → Prop} (hb : BK s) (hl : LD s) (hQ : ∀ s' v, md qF qC s s' → LAID s' → Q s' v) : C_X11_fits s Q := by
  refine s_X11_fits fun _ => c_X11_layNow hb hl fun s1 m1 l1 => ⟨Pall (hb.keep m1 (by decide) (by decide)), ?_⟩
  refine c_X11_clash l1.2.1 fun s2 v2 m2 _ => ?_
  (repeat' (with_reducible first | refine ⟨?_, ?_⟩ | intro _))
  all_goals exact hQ _ _ (m1.tr (m2.mono (by decide) (by decide))) (l1.keep (m2.mono (by decide) (by decide)))
theorem c_X11_clashes {s : ST} {p : Int64} {Q : ST → Int → Prop} (hb : BK s) (hl : LD s) (hQ : ∀ s' v, md qF qC s s' → LD s' → Q s' v) : C_X11_clashes s p Q := by
  refine s_X11_clashes fun _ => ⟨fun _ => hQ s _ md.rf hl, fun _ => ⟨Pall hb, ?_⟩⟩
  refine ⟨fun _ => c_X11_layNow hb hl fun s1 m1 l1 => c_X11_clash l1.2.1 fun s2 v2 m2 _ => ?_, fun _ => hQ s _ md.rf hl⟩
  (repeat' (with_reducible first | refine ⟨?_, ?_⟩ | intro _))
  all_goals exact hQ _ _ (m1.tr (m2.mono (by decide) (by decide))) (l1.keep (m2.mono (by decide) (by decide))).ld
theorem F_isIn (s : ST) (p q u : Int) : F_X11_isIn s p q u = if p < q then 0 else (if u < p then 0 else 1) := rfl
theorem isIn_0 {s : ST} {p q u : Int} (h : ¬ F_X11_isIn s p q u = 0) : q ≤ p ∧ p ≤ u := by
  rw [F_isIn] at h
  by_cases c : p < q
  · rw [if_pos c] at h; exact absurd rfl h
  · rw [if_neg c] at h
    by_cases d : u < p
    · rw [if_pos d] at h; exact absurd rfl h
    · omega
theorem PisPlace {s : ST} {p : Int} (hb : BK s) : P_X11_isPlace s p := by
  have := hb.1
  have := hb.2.1.nn
  (repeat' (with_reducible first | refine ⟨?_, ?_⟩ | intro _))
  all_goals omega
/-- the node of a place as it stands itself -/
theorem stands {s : ST} {p : Int} (hb : BK s) (l : LAID s) (p0 : 0 ≤ p) (p1 : p < s.1 142 (s.1 139 28)) : P_X11_standsAs s p ∧ 0 ≤ s.1 172 (s.1 149 (40 * s.1 139 28 + p)) + p - s.1 170 (s.1 149 (40 * s.1 139 28 + p)) ∧ s.1 172 (s.1 149 (40 * s.1 139 28 + p)) + p - s.1 170 (s.1 149 (40 * s.1 139 28 + p)) < s.1 139 46 := by
  have h1 := hb.1
  have w := hb.2.1
  have hn := w.nn
  have ho := w.dO p0 p1
  obtain ⟨_, ⟨tv, _⟩, ly⟩ := l
  have hr := ly.2.1 _ ho.1.1 ho.1.2
  have hl := ly.1
  obtain ⟨c1, c2, _⟩ := ly.2.2 (s.1 149 (40 * s.1 139 28 + p)) ho.1.1 (by omega)
  have tN := tv.1
  rw [hr] at c2
  rw [hr]
  refine ⟨?_, by omega, by omega⟩
  (repeat' (with_reducible first | refine ⟨?_, ?_⟩ | intro _))
  all_goals omega
theorem PN.push {s s2 : ST} {N n v : Int} (pn : PN s N n) (hv : 0 ≤ v ∧ v < N) (h : ∀ i, i ≠ n → s2.1 166 i = s.1 166 i) (hn : s2.1 166 n = v) : PN s2 N (n + 1) := by
  intro i i0 i1
  by_cases e : i = n
  · rw [e, hn]; exact hv
  · rw [h i e]; exact pn i i0 (by omega)
theorem k_kind55 {q N : Int} {Q : ST → Int → Prop} (hq : 0 ≤ q ∧ q ≤ 499) : ∀ (m : Nat) (s : ST) (n o k : Int), q - k = (m : Int) → 0 ≤ k → TV s N → LI s N → PN s N n → (0 ≤ n ∧ n ≤ k + 1) → (0 ≤ o ∧ o ≤ k) → (∀ s' v, md [] [166, 174] s s' → Q s' v) → K_X11_kind_55 s q n o k Q := by
  have body : ∀ (s : ST) (n o k : Int), 0 ≤ k → k ≤ q → TV s N → LI s N → PN s N n → (0 ≤ n ∧ n ≤ k + 1) → (0 ≤ o ∧ o ≤ k) → (∀ s' v, md [] [166, 174] s s' → Q s' v) → (k ≠ q → ∀ s2 n2 o2, md [] [166, 174] s s2 → PN s2 N n2 → (0 ≤ n2 ∧ n2 ≤ k + 1 + 1) → (0 ≤ o2 ∧ o2 ≤ k + 1) → K_X11_kind_55 s2 q n2 o2 (k + 1) Q) → K_X11_kind_55 s q n o k Q := by
    intro s n o k k0 k1 tv li pn hn ho hQ hnx
    have tN := tv.1
    have k215 : ∀ s2 n2 o2 r, md [] [166, 174] s s2 → PN s2 N n2 → k ≠ q → (0 ≤ n2 ∧ n2 ≤ k + 1) → (0 ≤ o2 ∧ o2 ≤ k + 1) → (0 ≤ r ∧ r < N) → K_X11_kind_215 s2 q n2 o2 k r Q := by
      intro s2 n2 o2 r m2 pn2 hk h1 h2 h3
      have tr := (tv.keep m2 (by decide) (by decide) (by decide) (by decide) (by decide) (by decide)).2 r h3.1 h3.2
      refine s_X11_kind_215 ?_
      (repeat' (with_reducible first | refine ⟨?_, ?_⟩ | intro _))
      all_goals first | omega | skip
      · exact hnx hk _ _ _ m2 pn2 (by omega) h2
      · exact hnx hk _ _ _ (m2.tr (by repeat' (first | exact md.rf | assumption | refine md.ui ?_ ?_ | refine md.uj ?_ ?_ | exact Or.inr (by decide) | exact Or.inl (by decide)))) (pn2.push tr.2.1 (fun i e => ui_ne e) ui_same) (by omega) h2
    have k179 : ∀ s2 o2 r c, md [] [166, 174] s s2 → PN s2 N (n - 1) → 1 ≤ n → (0 ≤ o2 ∧ o2 ≤ k + 1) → (0 ≤ r ∧ r < N) → K_X11_kind_179 s2 q (n - 1) o2 k r c Q := by
      intro s2 o2 r c m2 pn2 h1 h2 h3
      have tr := (tv.keep m2 (by decide) (by decide) (by decide) (by decide) (by decide) (by decide)).2 r h3.1 h3.2
      refine s_X11_kind_179 ?_
      (repeat' (with_reducible first | refine ⟨?_, ?_⟩ | intro _))
      all_goals first | omega | exact hQ _ _ m2 | skip
      · exact k215 _ _ _ _ m2 pn2 (by omega) (by omega) h2 h3
      · exact k215 _ _ _ _ (m2.tr (by repeat' (first | exact md.rf | assumption | refine md.ui ?_ ?_ | refine md.uj ?_ ?_ | exact Or.inr (by decide) | exact Or.inl (by decide)))) (pn2.push tr.2.2 (fun i e => ui_ne e) ui_same) (by omega) (by omega) h2 h3
    have k145 : ∀ s2 r j, md [] [166, 174] s s2 → PN s2 N (n - 1) → 1 ≤ n → (0 ≤ j ∧ j ≤ o) → (0 ≤ r ∧ r < N) → K_X11_kind_145 s2 q (n - 1) o k r j Q := by
      intro s2 r j m2 pn2 h1 h2 h3
      have k170 : ∀ o3, (0 ≤ o3 ∧ o3 ≤ k + 1) → K_X11_kind_170 (ui s2 174 j r) q (n - 1) k r j o3 Q := by
        intro o3 h4
        refine s_X11_kind_170 ?_
        (repeat' (with_reducible first | refine ⟨?_, ?_⟩ | intro _))
        all_goals first | omega | skip
        exact k179 _ _ _ _ (m2.tr (by repeat' (first | exact md.rf | assumption | refine md.ui ?_ ?_ | refine md.uj ?_ ?_ | exact Or.inr (by decide) | exact Or.inl (by decide)))) (fun i i0 i1 => by rw [ui_cell (by decide)]; exact pn2 i i0 i1) h1 h4 h3
      refine s_X11_kind_145 ?_
      (repeat' (with_reducible first | refine ⟨?_, ?_⟩ | intro _))
      all_goals first | omega | exact k170 _ (by omega)
    have k120 : ∀ (m : Nat) s2 r j, o - j ≤ (m : Int) → md [] [166, 174] s s2 → PN s2 N (n - 1) → 1 ≤ n → (0 ≤ j ∧ j ≤ o) → (0 ≤ r ∧ r < N) → K_X11_kind_120 s2 q (n - 1) o k r j Q := by
      intro m
      induction m with
      | zero =>
        intro s2 r j hj m2 pn2 h1 h2 h3
        refine s_X11_kind_120 ?_
        (repeat' (with_reducible first | refine ⟨?_, ?_⟩ | intro _))
        all_goals first | omega | exact k145 _ _ _ m2 pn2 h1 h2 h3
      | succ m ih =>
        intro s2 r j hj m2 pn2 h1 h2 h3
        refine s_X11_kind_120 ?_
        (repeat' (with_reducible first | refine ⟨?_, ?_⟩ | intro _))
        all_goals first | omega | exact k145 _ _ _ m2 pn2 h1 h2 h3 | exact ih s2 r (j + 1) (by omega) m2 pn2 h1 (by omega) h3
    have k104 : ∀ r c, 1 ≤ n → (0 ≤ r ∧ r < N) → K_X11_kind_104 s q (n - 1) o k r c Q := by
      intro r c h1 h3
      refine s_X11_kind_104 ?_
      (repeat' (with_reducible first | refine ⟨?_, ?_⟩ | intro _))
      all_goals first | omega | exact k179 _ _ _ _ md.rf (fun i i0 i1 => pn i i0 (by omega)) h1 (by omega) h3 | exact k120 o.toNat s r 0 (by omega) md.rf (fun i i0 i1 => pn i i0 (by omega)) h1 (by omega) h3
    refine s_X11_kind_55 ?_
    (repeat' (with_reducible first | refine ⟨?_, ?_⟩ | intro _))
    all_goals first | omega | exact hQ _ _ md.rf | skip
    have hp := pn (n - 1) (by omega) (by omega)
    refine c_X11_find tN.2 li hp.1 hp.2 fun r r0 r1 _ _ => ?_
    have tr := tv.2 r r0 r1
    (repeat' (with_reducible first | refine ⟨?_, ?_⟩ | intro _))
    all_goals first | omega | exact k104 _ _ (by omega) ⟨r0, r1⟩
  intro m
  induction m with
  | zero =>
    intro s n o k hm k0 tv li pn hn ho hQ
    exact body s n o k k0 (by omega) tv li pn hn ho hQ (fun h => by omega)
  | succ m ih =>
    intro s n o k hm k0 tv li pn hn ho hQ
    exact body s n o k k0 (by omega) tv li pn hn ho hQ (fun h s2 n2 o2 m2 p2 h1 h2 => ih s2 n2 o2 (k + 1) (by omega) (by omega) (tv.keep m2 (by decide) (by decide) (by decide) (by decide) (by decide) (by decide)) (li.keep m2 (by decide) (by decide)) p2 h1 h2 (fun s' v m' => hQ s' v (m2.tr m')))
theorem c_X11_kind {s : ST} {p q : Int} {Q : ST → Int → Prop} (hb : BK s) (hl : LD s) (hQ : ∀ s' v, md qF qC s s' → LAID s' → Q s' v) : C_X11_kind s p q Q := by
  refine s_X11_kind fun _ _ _ => c_X11_layNow hb hl fun s1 m1 l1 => ?_
  have hb1 := hb.keep m1 (by decide) (by decide)
  refine ⟨PisPlace hb1, fun _ => hQ _ _ m1 l1, fun hp => ⟨fun _ => hQ _ _ m1 l1, fun hq => ⟨Pall hb1, ?_⟩⟩⟩
  have hp := isIn_0 hp
  refine c_X11_clash l1.2.1 fun s7 v7 m7 i7 => ?_
  have m17 := m1.tr (m7.mono (fs' := qF) (cs' := qC) (by decide) (by decide))
  have l7 := l1.keep (m7.mono (by decide) (by decide))
  have hb7 := hb1.keep m7 (by decide) (by decide)
  have f28 := m7.f 139 28 (by decide) (by decide)
  have e46 := m7.f 139 46 (by decide) (by decide)
  rw [← e46] at i7
  refine fun _ => ⟨fun _ => ?_, fun _ => hQ _ _ m17 l7⟩
  have p7 : p < s7.1 142 (s7.1 139 28) := by rw [m7.c 142 (by decide) (by decide), f28]; omega
  obtain ⟨st, st0, st1⟩ := stands hb7 l7 hp.1 p7
  refine ⟨st, ⟨by omega, by omega⟩, ?_⟩
  refine k_kind55 (N := s7.1 139 46) (by omega) q.toNat _ 1 0 0 (by omega) (by omega) (l7.2.1.1.keep (fs := []) (cs := [166]) (by repeat' (first | exact md.rf | assumption | refine md.ui ?_ ?_ | refine md.uj ?_ ?_ | exact Or.inr (by decide) | exact Or.inl (by decide))) (by decide) (by decide) (by decide) (by decide) (by decide) (by decide)) (i7.keep (fs := []) (cs := [166]) (by repeat' (first | exact md.rf | assumption | refine md.ui ?_ ?_ | refine md.uj ?_ ?_ | exact Or.inr (by decide) | exact Or.inl (by decide))) (by decide) (by decide)) (fun i i0 i1 => ?_) (by omega) (by omega) (fun s' v m' => ?_)
  · rw [show i = 0 by omega, ui_same]; exact ⟨st0, st1⟩
  · have m8 : md [] [166, 174] s7 s' := md.tr (by repeat' (first | exact md.rf | assumption | refine md.ui ?_ ?_ | refine md.uj ?_ ?_ | exact Or.inr (by decide) | exact Or.inl (by decide))) m'
    exact hQ s' v (m17.tr (m8.mono (by decide) (by decide))) (l7.keep (m8.mono (by decide) (by decide)))
theorem c_X11_meets {s : ST} {p q : Int} {Q : ST → Int → Prop} (hb : BK s) (hl : LD s) (hQ : ∀ s' v, md qF qC s s' → LAID s' → Q s' v) : C_X11_meets s p q Q := by
  refine s_X11_meets fun _ _ _ => c_X11_layNow hb hl fun s1 m1 l1 => ?_
  have hb1 := hb.keep m1 (by decide) (by decide)
  refine ⟨PisPlace hb1, fun _ => hQ _ _ m1 l1, fun hp => ⟨PisPlace hb1, fun _ => hQ _ _ m1 l1, fun hq => ⟨Pall hb1, ?_⟩⟩⟩
  have hp := isIn_0 hp
  have hq := isIn_0 hq
  refine c_X11_clash l1.2.1 fun s7 v7 m7 i7 => ?_
  have m17 := m1.tr (m7.mono (fs' := qF) (cs' := qC) (by decide) (by decide))
  have l7 := l1.keep (m7.mono (by decide) (by decide))
  have hb7 := hb1.keep m7 (by decide) (by decide)
  have f28 := m7.f 139 28 (by decide) (by decide)
  have e46 := m7.f 139 46 (by decide) (by decide)
  rw [← e46] at i7
  refine fun _ => ⟨fun _ => ?_, fun _ => hQ _ _ m17 l7⟩
  have p7 : p < s7.1 142 (s7.1 139 28) := by rw [m7.c 142 (by decide) (by decide), f28]; omega
  have q7 : q < s7.1 142 (s7.1 139 28) := by rw [m7.c 142 (by decide) (by decide), f28]; omega
  obtain ⟨st, st0, st1⟩ := stands hb7 l7 hp.1 p7
  obtain ⟨sq, sq0, sq1⟩ := stands hb7 l7 hq.1 q7
  refine ⟨st, sq, ?_⟩
  refine c_X11_unite l7.2.1.1 i7 l7.2.1.2.1 ⟨st0, st1⟩ ⟨sq0, sq1⟩ fun s8 v8 m8 i8 => ?_
  have l8 := l7.keep (m8.mono (by decide) (by decide))
  have m18 := m17.tr (m8.mono (fs' := qF) (cs' := qC) (by decide) (by decide))
  have e468 := m8.f 139 46 (by decide) (by decide)
  (repeat' (with_reducible first | refine ⟨?_, ?_⟩ | intro _))
  all_goals first | exact hQ _ _ m18 l8 | skip
  refine c_X11_isSound l8.2.1.1 rfl (by rw [e468]; exact i8) fun s9 v9 m9 => ?_
  (repeat' (with_reducible first | refine ⟨?_, ?_⟩ | intro _))
  all_goals exact hQ _ _ (m18.tr (m9.mono (by decide) (by decide))) (l8.keep (m9.mono (by decide) (by decide)))
