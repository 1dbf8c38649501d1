/-! THE REFERENCE: findCheapest -/
def layCells : List Nat := 161 :: 162 :: 163 :: 168 :: 169 :: 170 :: 171 :: 172 :: 173 :: bankCells
theorem LAID.kp {fs : List (Nat × Int)} {cs : List Nat} {s s' : ST} (h : LAID s) (hm : md fs cs s s') (h1 : (fs.all fun q => decide (q.1 ∉ layCells) && decide (q ∉ [((139 : Nat), (28 : Int)), (139, 46), (139, 47), (139, 48), (139, 49)])) = true) (h2 : (cs.all fun a => decide (a ∉ 139 :: layCells)) = true) : LAID s' := by
  have cell : ∀ a, a ∈ layCells → ∀ t, s'.1 a t = s.1 a t := fun a ha t => (hm a t (fun q => by
    have := List.all_eq_true.mp h1 _ q
    rw [Bool.and_eq_true, decide_eq_true_eq, decide_eq_true_eq] at this
    exact this.1 ha) (fun q => (of_decide_eq_true (List.all_eq_true.mp h2 _ q)) (List.mem_cons_of_mem _ ha))).1
  have fld : ∀ f, (139, f) ∈ [((139 : Nat), (28 : Int)), (139, 46), (139, 47), (139, 48), (139, 49)] → s'.1 139 f = s.1 139 f := fun f hf => (hm 139 f (fun q => by
    have := List.all_eq_true.mp h1 _ q
    rw [Bool.and_eq_true, decide_eq_true_eq, decide_eq_true_eq] at this
    exact this.2 hf) (fun q => (of_decide_eq_true (List.all_eq_true.mp h2 _ q)) (by decide))).1
  obtain ⟨g1, ⟨t1, t2, t3, t4⟩, a1, a2, a3⟩ := h
  unfold LAID TI LYI
  rw [fld 49 (by decide), fld 28 (by decide), fld 46 (by decide), fld 47 (by decide), fld 48 (by decide), cell 143 (by decide), cell 142 (by decide), bins_eq (fun t => cell 161 (by decide) t)]
  refine ⟨g1, ⟨⟨t1.1, fun t a b => ?_⟩, t2, t3, fun k a b => ?_⟩, a1, fun d d0 d1 => by rw [cell 170 (by decide), cell 145 (by decide)]; exact a2 d d0 d1, fun l l0 l1 => ?_⟩
  · rw [cell 161 (by decide), cell 162 (by decide), cell 163 (by decide)]; exact t1.2 t a b
  · rw [cell 168 (by decide), cell 169 (by decide)]; exact t4 k a b
  · obtain ⟨c1, c2, c3, c4⟩ := a3 l l0 l1
    rw [cell 170 (by decide) l, cell 171 (by decide), cell 172 (by decide), cell 173 (by decide), cell 150 (by decide), cell 170 (by decide), cell 150 (by decide), cell 146 (by decide)]
    exact ⟨c1, by omega, by omega, c4.elim (fun ⟨d, d0, d1, d2⟩ => Or.inl ⟨d, d0, d1, by rw [cell 145 (by decide)]; exact d2⟩) Or.inr⟩
theorem LD.kp {fs : List (Nat × Int)} {cs : List Nat} {s s' : ST} (h : LD s) (hm : md fs cs s s') (h1 : (fs.all fun q => decide (q.1 ∉ layCells) && decide (q ∉ [((139 : Nat), (28 : Int)), (139, 46), (139, 47), (139, 48), (139, 49)])) = true) (h2 : (cs.all fun a => decide (a ∉ 139 :: layCells)) = true) : LD s' := by
  have fld : ∀ f, (139, f) ∈ [((139 : Nat), (28 : Int)), (139, 46), (139, 47), (139, 48), (139, 49)] → s'.1 139 f = s.1 139 f := fun f hf => (hm 139 f (fun q => by
    have := List.all_eq_true.mp h1 _ q
    rw [Bool.and_eq_true, decide_eq_true_eq, decide_eq_true_eq] at this
    exact this.2 hf) (fun q => (of_decide_eq_true (List.all_eq_true.mp h2 _ q)) (by decide))).1
  intro e
  rw [fld 49 (by decide), fld 28 (by decide)] at e
  exact (LAID.kp ⟨e, h e⟩ hm h1 h2).2
theorem cn_full {p : Int → Bool} : ∀ n : Nat, cn p n = n → ∀ i : Int, 0 ≤ i → i < (n : Int) → p i = true := by
  intro n
  induction n with
  | zero => intro _ i _ _; omega
  | succ n ih =>
    intro h i i0 i1
    have h : cn p n + (if p (n : Int) then 1 else 0) = n + 1 := h
    have hl := cn_le p n
    by_cases c : p (n : Int) = true
    · by_cases e : i = (n : Int)
      · rw [e]; exact c
      · rw [if_pos c] at h
        exact ih (by omega) i i0 (by omega)
    · rw [if_neg c] at h; omega
theorem bits_add {g : Int64} {n p : Int} (h0 : 0 ≤ p) (h1 : p < n) (hn : n ≤ 40) (hp : lbt g p.toNat = false) : bitsIn (g ||| lshl 1 p) n = bitsIn g n + 1 := by
  have := cn_del (p := fun i => lbt (g ||| lshl 1 p) i.toNat) (q := fun i => lbt g i.toNat) (v := p) h0 (by
    show lbt (g ||| lshl 1 p) p.toNat = true
    rw [lbt_or, lbt_lshl h0 (by omega) (by omega), decide_eq_true rfl, Bool.or_true]) hp n.toNat (by omega) (fun i i0 i1 hi => by
    show lbt g i.toNat = lbt (g ||| lshl 1 p) i.toNat
    rw [lbt_or, lbt_lshl h0 (by omega) (by omega), decide_eq_false (by omega), Bool.or_false])
  unfold bitsIn
  omega
/-- levels 0 .. l of the search -/
def FCI (s : ST) (n l : Int) : Prop := BK s ∧ LAID s ∧ TR s ∧ s.1 142 (s.1 139 28) = n ∧ l ≤ n ∧ ∀ i, 0 ≤ i → i ≤ l → (-1 ≤ s.1 181 i ∧ s.1 181 i ≤ n) ∧ (0 ≤ s.1 180 i ∧ s.1 180 i ≤ 100 * i) ∧ (bitsIn (s.2 177 i) n : Int) = i ∧ (∀ q : Nat, (q : Int) < n → lbt (s.2 179 i) q = true → lbt (s.2 177 i) q = false)
def fF : List (Nat × Int) := [(139, 60), (139, 61)]
def fC : List Nat := [164, 165, 166, 177, 178, 179, 180, 181]
def same4 (s s' : ST) (l : Int) : Prop := ∀ i, 0 ≤ i → i < l → s'.1 181 i = s.1 181 i ∧ s'.1 180 i = s.1 180 i ∧ s'.2 177 i = s.2 177 i ∧ s'.2 179 i = s.2 179 i
theorem FCI.low {s s' : ST} {n l : Int} (h : FCI s n l) (hm : md fF fC s s') (h4 : same4 s s' l) : FCI s' n (l - 1) := by
  obtain ⟨h1, h2, h3, h5, h6, h7⟩ := h
  refine ⟨h1.keep hm (by decide) (by decide), h2.kp hm (by decide) (by decide), fun p p0 p1 => by rw [hm.c 176 (by decide) (by decide)]; exact h3 p p0 p1, by rw [hm.f 139 28 (by decide) (by decide), hm.c 142 (by decide) (by decide)]; exact h5, by omega, fun i i0 i1 => ?_⟩
  obtain ⟨a, b, c, d⟩ := h4 i i0 (by omega)
  rw [a, b, c, d]
  exact h7 i i0 (by omega)
theorem k_fc {n : Int} {Q : ST → Prop} (hn40 : n ≤ 40) : ∀ (r : Nat) (m : Nat) (s : ST) (l : Int), n - l = (r : Int) → 0 ≤ l → n - s.1 181 l ≤ (m : Int) → FCI s n l → (∀ s', md fF fC s s' → same4 s s' l → FCI s' n (l - 1) → K_X11_findCheapest_60 s' (l - 1) Q) → K_X11_findCheapest_60 s l Q := by
  intro r
  induction r with
  | zero =>
    intro m s l hr l0 hm h hk
    have h' := h
    obtain ⟨h1, h2, h3, h5, h6, h7⟩ := h
    obtain ⟨⟨t0, t1⟩, ⟨u0, u1⟩, ub, uo⟩ := h7 l l0 (by omega)
    have hb := h1.1
    have hn := h1.2.1.nn
    have full : ∀ p : Int, 0 ≤ p → p < n → lbt (s.2 179 l) p.toNat = false := by
      intro p p0 p1
      have : lbt (s.2 177 l) p.toNat = true := cn_full (p := fun i => lbt (s.2 177 l) i.toNat) n.toNat (by unfold bitsIn at ub; omega) p p0 (by omega)
      cases hx : lbt (s.2 179 l) p.toNat with
      | false => rfl
      | true => have := uo p.toNat (by omega) hx; simp_all
    have k142 : ∀ p, n ≤ p → K_X11_findCheapest_142 s l p Q := by
      intro p hp
      refine s_X11_findCheapest_142 ?_
      (repeat' (with_reducible first | refine ⟨?_, ?_⟩ | intro _))
      all_goals first | omega | skip
      have m9 : md fF fC s (ui s 181 l p) := (by repeat' (first | exact md.rf | assumption | refine md.ui ?_ ?_ | refine md.uj ?_ ?_ | exact Or.inr (by decide) | exact Or.inl (by decide)))
      have s9 : same4 s (ui s 181 l p) l := fun i i0 i1 => ⟨ui_ne (by omega), ui_cell (by decide), rfl, rfl⟩
      exact hk _ m9 s9 (h'.low m9 s9)
    have k73 : ∀ (k : Nat) (p : Int), n - p ≤ (k : Int) → 0 ≤ p → K_X11_findCheapest_73 s l p Q := by
      intro k
      induction k with
      | zero =>
        intro p hp p0
        refine s_X11_findCheapest_73 ?_
        (repeat' (with_reducible first | refine ⟨?_, ?_⟩ | intro _))
        all_goals first | omega | exact k142 p (by omega)
      | succ k ih =>
        intro p hp p0
        refine s_X11_findCheapest_73 ?_
        (repeat' (with_reducible first | refine ⟨?_, ?_⟩ | intro _))
        all_goals first | omega | exact k142 p (by omega) | exact ih (p + 1) (by omega) (by omega) | skip
        all_goals (exfalso; rename_i x1 x2 x3; first | (have := full p p0 (by omega); rw [lshr_0 p0 (by omega)] at x1; simp_all) | (have := full p p0 (by omega); rw [lshr_0 p0 (by omega)] at x2; simp_all))
    refine s_X11_findCheapest_60 ?_
    (repeat' (with_reducible first | refine ⟨?_, ?_⟩ | intro _))
    all_goals first | omega | exact k73 (n - s.1 181 l).toNat _ (by omega) (by omega)
  | succ r ihr =>
    intro m
    induction m with
    | zero =>
      intro s l hr l0 hm h hk
      have h' := h
      obtain ⟨h1, h2, h3, h5, h6, h7⟩ := h
      obtain ⟨⟨t0, t1⟩, ⟨u0, u1⟩, ub, uo⟩ := h7 l l0 (by omega)
      have hb := h1.1
      have hn := h1.2.1.nn
      refine s_X11_findCheapest_60 ?_
      (repeat' (with_reducible first | refine ⟨?_, ?_⟩ | intro _))
      all_goals first | omega | skip
      refine s_X11_findCheapest_73 ?_
      (repeat' (with_reducible first | refine ⟨?_, ?_⟩ | intro _))
      all_goals first | omega | skip
      refine s_X11_findCheapest_142 ?_
      (repeat' (with_reducible first | refine ⟨?_, ?_⟩ | intro _))
      all_goals first | omega | skip
      have m9 : md fF fC s (ui s 181 l (s.1 181 l + 1)) := (by repeat' (first | exact md.rf | assumption | refine md.ui ?_ ?_ | refine md.uj ?_ ?_ | exact Or.inr (by decide) | exact Or.inl (by decide)))
      have s9 : same4 s (ui s 181 l (s.1 181 l + 1)) l := fun i i0 i1 => ⟨ui_ne (by omega), ui_cell (by decide), rfl, rfl⟩
      exact hk _ m9 s9 (h'.low m9 s9)
    | succ m ihm =>
      intro s l hr l0 hm h hk
      have h' := h
      obtain ⟨h1, h2, h3, h5, h6, h7⟩ := h
      obtain ⟨⟨t0, t1⟩, ⟨u0, u1⟩, ub, uo⟩ := h7 l l0 (by omega)
      have hb := h1.1
      have hn := h1.2.1.nn
      have k142 : ∀ p, s.1 181 l < p → (p < n → lbt (s.2 179 l) p.toNat = true) → K_X11_findCheapest_142 s l p Q := by
        intro p hp hbit
        by_cases c : p < n
        · have hbit := hbit c
          have hg := uo p.toNat (by omega) hbit
          have tp := h3 p (by omega) (by omega)
          refine s_X11_findCheapest_142 ?_
          (repeat' (with_reducible first | refine ⟨?_, ?_⟩ | intro _))
          all_goals first | omega | skip
          have m1 : md fF fC s (ui (uj (uj (ui s 181 l p) 177 (l + 1) (s.2 177 l ||| (lshl 1 p))) 178 (l + 1) (s.2 178 l ||| (s.2 179 l &&& ((lshl 1 p) - 1)))) 180 (l + 1) (s.1 180 l + s.1 176 p)) := (by repeat' (first | exact md.rf | assumption | refine md.ui ?_ ?_ | refine md.uj ?_ ?_ | exact Or.inr (by decide) | exact Or.inl (by decide)))
          have e177 : ∀ i, i ≠ l + 1 → (ui (uj (uj (ui s 181 l p) 177 (l + 1) (s.2 177 l ||| (lshl 1 p))) 178 (l + 1) (s.2 178 l ||| (s.2 179 l &&& ((lshl 1 p) - 1)))) 180 (l + 1) (s.1 180 l + s.1 176 p)).2 177 i = s.2 177 i := fun i hi => by rw [ui_j, uj_cell (by decide), uj_ne hi, ui_j]
          have f177 : (ui (uj (uj (ui s 181 l p) 177 (l + 1) (s.2 177 l ||| (lshl 1 p))) 178 (l + 1) (s.2 178 l ||| (s.2 179 l &&& ((lshl 1 p) - 1)))) 180 (l + 1) (s.1 180 l + s.1 176 p)).2 177 (l + 1) = (s.2 177 l ||| (lshl 1 p)) := by rw [ui_j, uj_cell (by decide), uj_same]
          have e179 : ∀ i, (ui (uj (uj (ui s 181 l p) 177 (l + 1) (s.2 177 l ||| (lshl 1 p))) 178 (l + 1) (s.2 178 l ||| (s.2 179 l &&& ((lshl 1 p) - 1)))) 180 (l + 1) (s.1 180 l + s.1 176 p)).2 179 i = s.2 179 i := fun i => by rw [ui_j, uj_cell (by decide), uj_cell (by decide), ui_j]
          have e180 : ∀ i, i ≠ l + 1 → (ui (uj (uj (ui s 181 l p) 177 (l + 1) (s.2 177 l ||| (lshl 1 p))) 178 (l + 1) (s.2 178 l ||| (s.2 179 l &&& ((lshl 1 p) - 1)))) 180 (l + 1) (s.1 180 l + s.1 176 p)).1 180 i = s.1 180 i := fun i hi => by rw [ui_ne hi, uj_i, uj_i, ui_cell (by decide)]
          have f180 : (ui (uj (uj (ui s 181 l p) 177 (l + 1) (s.2 177 l ||| (lshl 1 p))) 178 (l + 1) (s.2 178 l ||| (s.2 179 l &&& ((lshl 1 p) - 1)))) 180 (l + 1) (s.1 180 l + s.1 176 p)).1 180 (l + 1) = s.1 180 l + s.1 176 p := ui_same
          have e181 : ∀ i, i ≠ l → (ui (uj (uj (ui s 181 l p) 177 (l + 1) (s.2 177 l ||| (lshl 1 p))) 178 (l + 1) (s.2 178 l ||| (s.2 179 l &&& ((lshl 1 p) - 1)))) 180 (l + 1) (s.1 180 l + s.1 176 p)).1 181 i = s.1 181 i := fun i hi => by rw [ui_cell (by decide), uj_i, uj_i, ui_ne hi]
          have f181 : (ui (uj (uj (ui s 181 l p) 177 (l + 1) (s.2 177 l ||| (lshl 1 p))) 178 (l + 1) (s.2 178 l ||| (s.2 179 l &&& ((lshl 1 p) - 1)))) 180 (l + 1) (s.1 180 l + s.1 176 p)).1 181 l = p := by rw [ui_cell (by decide), uj_i, uj_i, ui_same]
          generalize (ui (uj (uj (ui s 181 l p) 177 (l + 1) (s.2 177 l ||| (lshl 1 p))) 178 (l + 1) (s.2 178 l ||| (s.2 179 l &&& ((lshl 1 p) - 1)))) 180 (l + 1) (s.1 180 l + s.1 176 p)) = s1 at *
          have hb1 := h1.keep m1 (by decide) (by decide)
          have l1 := h2.kp m1 (by decide) (by decide)
          refine c_X11_level hb1 l1 (by omega) fun s7 m7 l7 o7 t7 c7 => ?_
          have m17 : md fF fC s s7 := m1.tr (m7.mono (by decide) (by decide))
          have hb7 := h1.keep m17 (by decide) (by decide)
          have tr7 : TR s7 := fun i i0 i1 => by rw [m17.c 176 (by decide) (by decide)]; exact h3 i i0 i1
          have n7 : s7.1 142 (s7.1 139 28) = n := by rw [m17.f 139 28 (by decide) (by decide), m17.c 142 (by decide) (by decide)]; exact h5
          have lev : ∀ i, 0 ≤ i → i ≤ l + 1 → (-1 ≤ s7.1 181 i ∧ s7.1 181 i ≤ n) ∧ (0 ≤ s7.1 180 i ∧ s7.1 180 i ≤ 100 * i) ∧ (bitsIn (s7.2 177 i) n : Int) = i ∧ (∀ q : Nat, (q : Int) < n → lbt (s7.2 179 i) q = true → lbt (s7.2 177 i) q = false) := by
            intro i i0 i1
            rw [m7.c 180 (by decide) (by decide), m7.cj 177 (by decide) (by decide)]
            by_cases e : i = l + 1
            · subst e
              rw [f180, f177, t7]
              refine ⟨by omega, by omega, ?_, fun q hq hx => ?_⟩
              · rw [bits_add (by omega) c hn40 hg]; omega
              · have := c7 q (by omega) hx
                rw [f177] at this
                exact this
            · rw [(o7 i e).1, (o7 i e).2, e177 i e, e179, e180 i e]
              obtain ⟨a1, a2, a3, a4⟩ := h7 i i0 (by omega)
              by_cases e2 : i = l
              · subst e2
                rw [f181]
                exact ⟨by omega, a2, a3, a4⟩
              · rw [e181 i e2]
                exact ⟨a1, a2, a3, a4⟩
          refine ihr (n - s7.1 181 (l + 1)).toNat s7 (l + 1) (by omega) (by omega) (by omega) ⟨hb7, l7, tr7, n7, by omega, lev⟩ (fun s2 m2 s42 f2 => ?_)
          rw [show l + 1 - 1 = l by omega] at f2 ⊢
          have m02 : md fF fC s s2 := m17.tr m2
          refine ihm s2 l hr l0 ?_ f2 (fun s' m' s4' f' => hk s' (m02.tr m') (fun i i0 i1 => ?_) f')
          · rw [(s42 l l0 (by omega)).1, (o7 l (by omega)).2, f181]; omega
          · obtain ⟨a1, a2, a3, a4⟩ := s4' i i0 i1
            obtain ⟨b1, b2, b3, b4⟩ := s42 i i0 (by omega)
            rw [a1, a2, a3, a4, b1, b2, b3, b4, m7.c 180 (by decide) (by decide), m7.cj 177 (by decide) (by decide), (o7 i (by omega)).1, (o7 i (by omega)).2, e177 i (by omega), e179, e180 i (by omega), e181 i (by omega)]
            exact ⟨rfl, rfl, rfl, rfl⟩
        · refine s_X11_findCheapest_142 ?_
          (repeat' (with_reducible first | refine ⟨?_, ?_⟩ | intro _))
          all_goals first | omega | skip
          have m9 : md fF fC s (ui s 181 l p) := (by repeat' (first | exact md.rf | assumption | refine md.ui ?_ ?_ | refine md.uj ?_ ?_ | exact Or.inr (by decide) | exact Or.inl (by decide)))
          have s9 : same4 s (ui s 181 l p) l := fun i i0 i1 => ⟨ui_ne (by omega), ui_cell (by decide), rfl, rfl⟩
          exact hk _ m9 s9 (h'.low m9 s9)
      have k73 : ∀ (k : Nat) (p : Int), n - p ≤ (k : Int) → s.1 181 l < p → K_X11_findCheapest_73 s l p Q := by
        intro k
        induction k with
        | zero =>
          intro p hp p0
          refine s_X11_findCheapest_73 ?_
          (repeat' (with_reducible first | refine ⟨?_, ?_⟩ | intro _))
          all_goals first | omega | exact k142 p p0 (fun h => by omega)
        | succ k ih =>
          intro p hp p0
          by_cases c : p < n
          · have tp := h3 p (by omega) (by omega)
            refine s_X11_findCheapest_73 ?_
            (repeat' (with_reducible first | refine ⟨?_, ?_⟩ | intro _))
            all_goals first | omega | exact ih (p + 1) (by omega) (by omega) | skip
            rename_i x1 x2 x3
            refine k142 p p0 (fun _ => ?_)
            rw [lshr_0 (by omega) (by omega)] at x1
            cases hx : lbt (s.2 179 l) p.toNat with
            | true => rfl
            | false => exact absurd hx x1
          · refine s_X11_findCheapest_73 ?_
            (repeat' (with_reducible first | refine ⟨?_, ?_⟩ | intro _))
            all_goals first | omega | exact k142 p p0 (fun h => by omega)
      refine s_X11_findCheapest_60 ?_
      (repeat' (with_reducible first | refine ⟨?_, ?_⟩ | intro _))
      all_goals first | omega | exact k73 (n - s.1 181 l).toNat _ (by omega) (by omega)
def cF : List (Nat × Int) := (139, 60) :: (139, 61) :: (139, 62) :: qF
def cC : List Nat := 177 :: 178 :: 179 :: 180 :: 181 :: qC
theorem c_X11_findCheapest {s : ST} {Q : ST → Prop} (hb : BK s) (hl : LD s) (ht : TR s) (hQ : ∀ s', md cF cC s s' → LD s' → Q s') : C_X11_findCheapest s Q := by
  refine s_X11_findCheapest fun _ => ⟨fun _ => ?_, fun _ => hQ s md.rf hl⟩
  have m0 : md [(139, 62)] [] s (ui s 139 62 1) := (by repeat' (first | exact md.rf | assumption | refine md.ui ?_ ?_ | refine md.uj ?_ ?_ | exact Or.inr (by decide) | exact Or.inl (by decide)))
  refine c_X11_layNow (hb.keep m0 (by decide) (by decide)) (hl.kp m0 (by decide) (by decide)) fun s1 m1 l1 => ?_
  have m01 : md cF cC s s1 := (m0.mono (by decide) (by decide)).tr (m1.mono (by decide) (by decide))
  have hb1 := hb.keep m01 (by decide) (by decide)
  have tr1 : TR s1 := fun i i0 i1 => by rw [m01.c 176 (by decide) (by decide)]; exact ht i i0 i1
  refine c_X11_wholeTrust hb1 tr1 fun v v0 v1 => ?_
  (repeat' (with_reducible first | refine ⟨?_, ?_⟩ | intro _))
  all_goals first | omega | skip
  have m2 : md [(139, 60), (139, 61)] [177, 178, 180] s1 (ui (uj (uj (uj (ui s1 139 61 (v + 1)) 139 60 0) 177 0 0) 178 0 0) 180 0 0) := (by repeat' (first | exact md.rf | assumption | refine md.ui ?_ ?_ | refine md.uj ?_ ?_ | exact Or.inr (by decide) | exact Or.inl (by decide)))
  have e177 : (ui (uj (uj (uj (ui s1 139 61 (v + 1)) 139 60 0) 177 0 0) 178 0 0) 180 0 0).2 177 0 = 0 := by rw [ui_j, uj_cell (by decide), uj_same]
  have e180 : (ui (uj (uj (uj (ui s1 139 61 (v + 1)) 139 60 0) 177 0 0) 178 0 0) 180 0 0).1 180 0 = 0 := ui_same
  generalize (ui (uj (uj (uj (ui s1 139 61 (v + 1)) 139 60 0) 177 0 0) 178 0 0) 180 0 0) = s2 at *
  refine c_X11_level (hb1.keep m2 (by decide) (by decide)) (l1.kp m2 (by decide) (by decide)) (by omega) fun s5 m5 l5 o5 t5 c5 => ?_
  have m05 : md cF cC s s5 := m01.tr ((m2.mono (by decide) (by decide)).tr (m5.mono (by decide) (by decide)))
  have hb5 := hb.keep m05 (by decide) (by decide)
  have nn := hb5.2.1.nn
  have tr5 : TR s5 := fun i i0 i1 => by rw [m05.c 176 (by decide) (by decide)]; exact ht i i0 i1
  refine k_fc (n := s5.1 142 (s5.1 139 28)) (by omega) (s5.1 142 (s5.1 139 28)).toNat (s5.1 142 (s5.1 139 28) - s5.1 181 0).toNat s5 0 (by omega) (by omega) (by omega) ⟨hb5, l5, tr5, rfl, by omega, fun i i0 i1 => ?_⟩ (fun s' m' _ f' => ?_)
  · obtain rfl : i = 0 := by omega
    rw [t5, m5.c 180 (by decide) (by decide), m5.cj 177 (by decide) (by decide), e180, e177]
    refine ⟨by omega, by omega, ?_, fun q hq hx => ?_⟩
    · have : bitsIn 0 (s5.1 142 (s5.1 139 28)) = 0 := by
        have : ∀ n : Nat, cn (fun i => lbt 0 i.toNat) n = 0 := by
          intro n
          induction n with
          | zero => rfl
          | succ n ih => show cn (fun i => lbt 0 i.toNat) n + (if lbt 0 ((n : Int)).toNat = true then 1 else 0) = 0; rw [ih, lbt_z]; rfl
        exact this _
      omega
    · exact lbt_z q
  · refine s_X11_findCheapest_60 fun _ _ => ⟨fun _ => hQ s' (m05.tr (m'.mono (by decide) (by decide))) f'.2.1.ld, fun h => absurd (by omega) h⟩
theorem c_X11_cheapest {s : ST} {Q : ST → Int64 → Prop} (hb : BK s) (hl : LD s) (ht : TR s) (hQ : ∀ s' v, md cF cC s s' → LD s' → Q s' v) : C_X11_cheapest s Q := by
  have := hb.1
  refine s_X11_cheapest fun _ => ⟨⟨by omega, by omega⟩, fun _ => c_X11_findCheapest hb hl ht fun s' m' l' => hQ _ _ m' l', fun _ => hQ _ _ md.rf hl⟩
