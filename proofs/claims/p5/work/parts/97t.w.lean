/-! THE REFERENCE: endsPlace, readE -/
/-- a closed place's asks -/
theorem RP.as {s : ST} {b m n R nD nK p : Int} (h : RP s b m n R nD nK) (p0 : 0 ≤ p) (p1 : p < n) (hc : ¬ OPN s m p) : 1 ≤ bas s b p ∧ bas s b p ≤ 1000000 := (h.2.2.1 p p0 p1 hc).2.1
theorem RP.below {s : ST} {b m n R nD nK p : Int} (h : RP s b m n R nD nK) (hp : p < R) : ¬ OPN s m p := by
  rintro ⟨i, ⟨i0, i1⟩, e⟩
  have := (h.2.2.2.1.2 i i0 i1).1.1.1
  omega
/-- the root that a NAME makes anew, if there is one -/
theorem RP.root {s : ST} {b m n R nD nK p : Int} (h : RP s b m n R nD nK) (hb : 0 ≤ b ∧ b ≤ 1) (p0 : 0 ≤ p) (p1 : p < n) (h2 : bso s b p = 2) : P_X11_rootOf s b p ∧ (F_X11_rootOf s b p < 0 ∨ (0 ≤ F_X11_rootOf s b p ∧ F_X11_rootOf s b p < 40) ∧ 1 ≤ s.1 151 (40 * b + F_X11_rootOf s b p) ∧ s.1 151 (40 * b + F_X11_rootOf s b p) ≤ 1000000) := by
  obtain ⟨ra, rb, rc, rd, re⟩ := id h
  obtain ⟨a1, a2, a3, a4, a5, a6, a7, a8, a9, a10⟩ := ra
  obtain ⟨b1, b2, b3, b4, b5, b6⟩ := rb p p0 p1
  obtain ⟨n1, n2⟩ := b2 h2
  have ebi : bbi s b p = s.1 153 (40 * b + p) := rfl
  by_cases hl : bbi s b p < 100
  · obtain ⟨⟨x1, x2, x3⟩, x4⟩ := n1 hl
    have eso : bso s b (bbi s b p) = s.1 146 (40 * b + s.1 153 (40 * b + p)) := rfl
    constructor
    · unfold P_X11_rootOf
      rw [← ebi]
      refine ⟨?_, ?_, by omega, fun _ => ⟨?_, by omega, fun _ => ⟨?_, by omega⟩⟩, fun h => absurd hl h⟩ <;> (unfold R32; omega)
    · unfold F_X11_rootOf
      rw [← ebi, if_pos hl]
      by_cases c : s.1 146 (40 * b + bbi s b p) = 4
      · rw [if_pos c]
        have h4 : bso s b (bbi s b p) = 4 := c
        have x5 := x4.resolve_left (by omega)
        have kk : (bbi s b p < bkd s b (bbi s b p) 0 ∧ bkd s b (bbi s b p) 0 < n) ∧ ¬ OPN s m (bkd s b (bbi s b p) 0) := by
          by_cases co : OPN s m (bbi s b p)
          · obtain ⟨i, ⟨i0, i1⟩, e⟩ := co
            have od := x5.2 i i0 i1 e
            have hk := (rd.2 i i0 i1).2.2.2.2.2.2 0 (by omega) (by omega)
            have hn := rd.kidn i0 i1 (Int.le_refl 0) (by omega)
            have hc := rd.kidc i0 i1 (Int.le_refl 0) (by omega)
            rw [e] at hk hn hc
            exact ⟨by omega, hc⟩
          · have hk := (rc _ x1 (by omega) co).1
            have h0 := hk.2 0 (Int.le_refl 0) (by rw [h4]; decide)
            have hn := hk.1.2.1
            exact ⟨by omega, h.kidc x1 (by omega) co (Int.le_refl 0) (by rw [h4]; decide)⟩
        have e0 : s.1 152 (3 * (40 * b + bbi s b p)) = bkd s b (bbi s b p) 0 := by
          show _ = s.1 152 (3 * (40 * b + bbi s b p) + 0)
          rw [Int.add_zero]
        rw [e0]
        exact Or.inr ⟨by omega, h.as (by omega) kk.1.2 kk.2⟩
      · rw [if_neg c]; exact Or.inl (by omega)
  · have hg := n2 (by omega)
    have hd : bdO s b p ≤ nD := by
      by_cases c : p < R
      · have := (b4 c).1; omega
      · rw [b5 (by omega)]; exact Int.le_refl _
    have hr := a7 (bbi s b p - 100) (by omega) (by omega)
    constructor
    · unfold P_X11_rootOf
      rw [← ebi]
      refine ⟨?_, ?_, by omega, fun h => absurd h hl, fun _ => ⟨?_, ?_, ?_, by omega⟩⟩ <;> (unfold R32; omega)
    · unfold F_X11_rootOf
      rw [← ebi, if_neg hl]
      have e0 : s.1 145 (8 * b + bbi s b p - 100) = bdR s b (bbi s b p - 100) := by
        show _ = s.1 145 (8 * b + (bbi s b p - 100))
        rw [show 8 * b + (bbi s b p - 100) = 8 * b + bbi s b p - 100 by omega]
      rw [e0]
      exact Or.inr ⟨by omega, h.as hr.1 (by omega) (h.below hr.2)⟩
/-- what endsPlace leaves -/
def EPO (s s' : ST) (b m n R nD v : Int) : Prop := RM b s s' ∧ RDC s' ∧ s'.1 143 b = nD ∧ (v = 0 ∨ v = 1) ∧ (s'.1 139 4 = 0 → RP s' b (m - 1) n R nD (s'.1 144 b) ∧ s'.1 139 32 = m - 1 ∧ s'.1 142 b = n ∧ (2 ≤ m → (v = 0 → ar (s'.1 146 (40 * b + s'.1 159 (m - 2))) ≤ s'.1 160 (m - 2)) ∧ (v = 1 → s'.1 160 (m - 2) < ar (s'.1 146 (40 * b + s'.1 159 (m - 2))))) ∧ (m = 1 → v = 0 ∧ R < n ∧ ben s' b R = n - 1))
theorem c_X11_endsPlace {s : ST} {b m n R nD : Int} {Q : ST → Int → Prop} (h : RP s b m n R nD (s.1 144 b)) (hb : 0 ≤ b ∧ b ≤ 1) (h29 : s.1 139 29 = b) (h32 : s.1 139 32 = m) (h42 : s.1 142 b = n) (h43 : s.1 143 b = nD) (hc : RDC s) (hm : 1 ≤ m) (htop : ar (s.1 146 (40 * b + s.1 159 (m - 1))) ≤ s.1 160 (m - 1)) (hQ : ∀ s' v, EPO s s' b m n R nD v → Q s' v) : C_X11_endsPlace s Q := by
  obtain ⟨ra, rb, rc, rd, re⟩ := id h
  obtain ⟨a1, a2, a3, a4, a5, a6, a7, a8, a9, a10⟩ := ra
  have hT := rd.2 (m - 1) (by omega) (by omega)
  obtain ⟨⟨t1, t2, t3⟩, t4, t5, t6, t7, t8, t9⟩ := id hT
  have tc : ar (bso s b (s.1 159 (m - 1))) = ar (s.1 146 (40 * b + s.1 159 (m - 1))) := rfl
  have hrd := rd
  refine s_X11_endsPlace ?_
  rw [h32, h29, h42]
  generalize ht : s.1 159 (m - 1) = t at *
  have m1 : md [] [150] s (ui s 150 (40 * b + t) (n - 1)) := (by repeat' (first | exact md.rf | assumption | refine md.ui ?_ ?_ | refine md.uj ?_ ?_ | exact Or.inr (by decide) | exact Or.inl (by decide)))
  have r1 : RM b s (ui s 150 (40 * b + t) (n - 1)) := RM.rf.ui (by unfold RW; omega)
  have e50 : ∀ x, x ≠ t → (ui s 150 (40 * b + t) (n - 1)).1 150 (40 * b + x) = s.1 150 (40 * b + x) := fun x hx => ui_ne (by omega)
  have e50t : (ui s 150 (40 * b + t) (n - 1)).1 150 (40 * b + t) = n - 1 := ui_same
  have hodt : s.1 160 (m - 1) = ar (bso s b t) := by omega
  have har := ar_r (bso s b t)
  simp only [ar_F]
  refine fun _ => ⟨?_, ?_, ?_, ?_, ?_, ?_, fun hh => absurd htop hh⟩
  · unfold R32; omega
  · omega
  · unfold R32; omega
  · unfold R32; omega
  · omega
  intro _
  refine ⟨by omega, ?_, ?_⟩
  · unfold R32; omega
  generalize ui s 150 (40 * b + t) (n - 1) = s1 at *
  have c46 : ∀ z, s1.1 146 z = s.1 146 z := fun z => m1.c 146 (by decide) (by decide) z
  have c51 : ∀ z, s1.1 151 z = s.1 151 z := fun z => m1.c 151 (by decide) (by decide) z
  have c52 : ∀ z, s1.1 152 z = s.1 152 z := fun z => m1.c 152 (by decide) (by decide) z
  have c53 : ∀ z, s1.1 153 z = s.1 153 z := fun z => m1.c 153 (by decide) (by decide) z
  have c45 : ∀ z, s1.1 145 z = s.1 145 z := fun z => m1.c 145 (by decide) (by decide) z
  have c59 : ∀ z, s1.1 159 z = s.1 159 z := fun z => m1.c 159 (by decide) (by decide) z
  have c60 : ∀ z, s1.1 160 z = s.1 160 z := fun z => m1.c 160 (by decide) (by decide) z
  have d32 : s1.1 139 32 = m := by rw [m1.f 139 32 (by decide) (by decide)]; exact h32
  have d29 : s1.1 139 29 = b := by rw [m1.f 139 29 (by decide) (by decide)]; exact h29
  have f46 : bso s1 b = bso s b := funext fun x => c46 _
  have f51 : bas s1 b = bas s b := funext fun x => c51 _
  have f52 : bkd s1 b = bkd s b := funext fun x => funext fun k => c52 _
  have f53 : bbi s1 b = bbi s b := funext fun x => c53 _
  have f45 : bdR s1 b = bdR s b := funext fun x => c45 _
  have eR : ∀ p, F_X11_rootOf s1 b p = F_X11_rootOf s b p := fun p => by
    unfold F_X11_rootOf; rw [c53, c46, c52, c45]
  refine c_X11_asksHere (by omega) (by omega) (fun k k0 k1 => ?_) (fun h2 => ?_) fun v hv hv2 => ?_
  · rw [c46] at k1
    have hk : s1.1 152 (3 * (40 * b + t) + k) = bkd s b t k := c52 _
    rw [hk, c51]
    have h9 := t9 k k0 (by omega)
    have hkn := hrd.kidn (i := m - 1) (k := k) (by omega) (by omega) k0 (by omega)
    have hkc := hrd.kidc (i := m - 1) (k := k) (by omega) (by omega) k0 (by omega)
    rw [ht] at hkn hkc
    exact ⟨by omega, h.as (by omega) (by omega) hkc⟩
  · rw [c46] at h2
    obtain ⟨pr, hr⟩ := h.root hb (show 0 ≤ t by omega) t1.2 h2
    rw [eR, c51]
    refine ⟨?_, hr⟩
    unfold P_X11_rootOf at pr ⊢
    rw [c53, c46]
    exact pr
  · rw [f46, f51, f52, f53, f45] at hv2
    rw [d32, d29]
    simp only [c59, c60, c46]
    have fin : ∀ (s9 : ST) (w : Int), RM b s s9 → RDC s9 → s9.1 143 b = nD → (w = 0 ∨ w = 1) → (s9.1 139 4 = 0 → POP s s9 b m n t ∧ bas s9 b t = v ∧ s9.1 144 b = s.1 144 b ∧ s9.1 139 32 = m - 1 ∧ s9.1 142 b = n ∧ (2 ≤ m → (w = 0 → ar (s9.1 146 (40 * b + s9.1 159 (m - 2))) ≤ s9.1 160 (m - 2)) ∧ (w = 1 → s9.1 160 (m - 2) < ar (s9.1 146 (40 * b + s9.1 159 (m - 2))))) ∧ (m = 1 → w = 0)) → Q s9 w := by
      intro s9 w r9 c9 d43 hw hp
      refine hQ s9 w ⟨r9, c9, d43, hw, fun h4 => ?_⟩
      obtain ⟨pop, has, g44, g32, g42, g2, g1⟩ := hp h4
      refine ⟨?_, g32, g42, g2, fun e1 => ⟨g1 e1, ?_, ?_⟩⟩
      · rw [g44]
        exact pop.go h hm ht.symm (by omega) (by rw [has]; exact ⟨hv, hv2⟩)
      · have := hrd.1 (by omega)
        rw [e1, show (1 : Int) - 1 = 0 by omega] at ht
        omega
      · have := hrd.1 (by omega)
        rw [e1, show (1 : Int) - 1 = 0 by omega] at ht
        rw [← this, ht]; exact pop.2.2.1
    have popA : ∀ s9, md ((139, 32) :: mF) [150, 151, 152, 160] s s9 → (∀ x, x ≠ t → s9.1 150 (40 * b + x) = s.1 150 (40 * b + x) ∧ s9.1 151 (40 * b + x) = s.1 151 (40 * b + x)) → s9.1 150 (40 * b + t) = n - 1 → (∀ i, i ≠ m - 2 → s9.1 160 i = s.1 160 i) → (∀ x k, 0 ≤ k → k ≤ 2 → (m = 1 ∨ x ≠ s.1 159 (m - 2) ∨ k ≠ s.1 160 (m - 2)) → s9.1 152 (3 * (40 * b + x) + k) = s.1 152 (3 * (40 * b + x) + k)) → (2 ≤ m → s9.1 152 (3 * (40 * b + s.1 159 (m - 2)) + s.1 160 (m - 2)) = t ∧ s9.1 160 (m - 2) = s.1 160 (m - 2) + 1) → POP s s9 b m n t := fun s9 m9 q1 q2 q3 q4 q5 => ⟨fun x => ⟨m9.c 146 (by decide) (by decide) _, m9.c 153 (by decide) (by decide) _, m9.c 149 (by decide) (by decide) _, m9.c 154 (by decide) (by decide) _, m9.c 155 (by decide) (by decide) _, m9.c 145 (by decide) (by decide) _, m9.c 156 (by decide) (by decide) _⟩, q1, q2, fun i => m9.c 159 (by decide) (by decide) i, q3, q4, q5⟩
    have k190 : ∀ s9 q, RM b s s9 → RDC s9 → s9.1 143 b = nD → 2 ≤ m → q = s.1 159 (m - 2) → s9.1 139 32 = m - 1 → POP s s9 b m n t → bas s9 b t = v → s9.1 144 b = s.1 144 b → s9.1 142 b = n → K_X11_endsPlace_190 s9 (40 * b + q) Q := by
      intro s9 q r9 c9 d43 hm2 hq e32 pop has e44 e42
      have hq2 := (hrd.2 (m - 2) (by omega) (by omega)).1.1
      rw [← hq] at hq2
      have e59 : s9.1 159 (m - 2) = q := by rw [pop.2.2.2.1]; exact hq.symm
      refine s_X11_endsPlace_190 ?_
      rw [e32, show m - 1 - 1 = m - 2 by omega]
      simp only [ar_F]
      (repeat' (with_reducible first | refine ⟨?_, ?_⟩ | intro _))
      all_goals first | omega | skip
      · exact fin s9 0 r9 c9 d43 (Or.inl rfl) (fun _ => ⟨pop, has, e44, e32, e42, fun _ => ⟨fun _ => by rw [e59]; assumption, fun h => absurd h (by decide)⟩, fun h => absurd h (by omega)⟩)
      · exact fin s9 1 r9 c9 d43 (Or.inr rfl) (fun _ => ⟨pop, has, e44, e32, e42, fun _ => ⟨fun h => absurd h (by decide), fun _ => by rw [e59]; omega⟩, fun h => absurd h (by omega)⟩)
    have hg0 : 40 * b + t ≠ 40 * b + t → False := fun h => h rfl
    refine ⟨by unfold R32; omega, fun hn1 => ?_, fun he1 => ?_⟩
    · have hm2 : 2 ≤ m := by omega
      have hq2 := (hrd.2 (m - 2) (by omega) (by omega)).1
      have hq3 := ar_r (bso s b (s.1 159 (m - 2)))
      rw [show m - 1 - 1 = m - 2 by omega]
      generalize hq : s.1 159 (m - 2) = q at *
      generalize ho : s.1 160 (m - 2) = od at *
      have m2 : md [(139, 32)] [151, 152, 160] s1 (ui (ui (ui (ui s1 151 (40 * b + t) v) 139 32 (m - 1)) 152 (3 * (40 * b + q) + od) t) 160 (m - 2) (od + 1)) := (by repeat' (first | exact md.rf | assumption | refine md.ui ?_ ?_ | refine md.uj ?_ ?_ | exact Or.inr (by decide) | exact Or.inl (by decide)))
      have r2 : RM b s1 (ui (ui (ui (ui s1 151 (40 * b + t) v) 139 32 (m - 1)) 152 (3 * (40 * b + q) + od) t) 160 (m - 2) (od + 1)) := (((RM.rf.ui (by unfold RW; omega)).ui (by unfold RW; omega)).ui (by unfold RW; omega)).ui (by unfold RW; omega)
      have g32 : (ui (ui (ui (ui s1 151 (40 * b + t) v) 139 32 (m - 1)) 152 (3 * (40 * b + q) + od) t) 160 (m - 2) (od + 1)).1 139 32 = m - 1 := by rw [ui_cell (by decide), ui_cell (by decide), ui_same]
      have g51 : (ui (ui (ui (ui s1 151 (40 * b + t) v) 139 32 (m - 1)) 152 (3 * (40 * b + q) + od) t) 160 (m - 2) (od + 1)).1 151 (40 * b + t) = v := by rw [ui_cell (by decide), ui_cell (by decide), ui_cell (by decide), ui_same]
      have g51n : ∀ z, z ≠ 40 * b + t → (ui (ui (ui (ui s1 151 (40 * b + t) v) 139 32 (m - 1)) 152 (3 * (40 * b + q) + od) t) 160 (m - 2) (od + 1)).1 151 z = s1.1 151 z := fun z hz => by rw [ui_cell (by decide), ui_cell (by decide), ui_cell (by decide), ui_ne hz]
      have g52 : (ui (ui (ui (ui s1 151 (40 * b + t) v) 139 32 (m - 1)) 152 (3 * (40 * b + q) + od) t) 160 (m - 2) (od + 1)).1 152 (3 * (40 * b + q) + od) = t := by rw [ui_cell (by decide), ui_same]
      have g52n : ∀ z, z ≠ 3 * (40 * b + q) + od → (ui (ui (ui (ui s1 151 (40 * b + t) v) 139 32 (m - 1)) 152 (3 * (40 * b + q) + od) t) 160 (m - 2) (od + 1)).1 152 z = s1.1 152 z := fun z hz => by rw [ui_cell (by decide), ui_ne hz, ui_cell (by decide), ui_cell (by decide)]
      have g60 : (ui (ui (ui (ui s1 151 (40 * b + t) v) 139 32 (m - 1)) 152 (3 * (40 * b + q) + od) t) 160 (m - 2) (od + 1)).1 160 (m - 2) = od + 1 := ui_same
      have g60n : ∀ i, i ≠ m - 2 → (ui (ui (ui (ui s1 151 (40 * b + t) v) 139 32 (m - 1)) 152 (3 * (40 * b + q) + od) t) 160 (m - 2) (od + 1)).1 160 i = s1.1 160 i := fun i hi => by rw [ui_ne hi, ui_cell (by decide), ui_cell (by decide), ui_cell (by decide)]
      generalize ui (ui (ui (ui s1 151 (40 * b + t) v) 139 32 (m - 1)) 152 (3 * (40 * b + q) + od) t) 160 (m - 2) (od + 1) = s2 at *
      have c2 : RDC s2 := (hc.keep m1 (by decide) (by decide)).keep m2 (by decide) (by decide)
      have kk : ∀ s9, md mF [] s2 s9 → RDC s9 → K_X11_endsPlace_190 s9 (40 * b + q) Q := by
        intro s9 m9 c9
        have x50 : ∀ z, s9.1 150 z = s1.1 150 z := fun z => (m9.c 150 (by decide) (by decide) z).trans (m2.c 150 (by decide) (by decide) z)
        have x51 : ∀ z, s9.1 151 z = s2.1 151 z := fun z => m9.c 151 (by decide) (by decide) z
        have x52 : ∀ z, s9.1 152 z = s2.1 152 z := fun z => m9.c 152 (by decide) (by decide) z
        have x60 : ∀ z, s9.1 160 z = s2.1 160 z := fun z => m9.c 160 (by decide) (by decide) z
        refine k190 s9 q ((r1.tr r2).tr (RM.md m9 (by decide))) c9 ?_ hm2 rfl ?_ (popA s9 (((m1.mono (by decide) (by decide)).tr (m2.mono (by decide) (by decide))).tr (m9.mono (by decide) (by decide))) (fun x hx => ⟨?_, ?_⟩) ?_ (fun i hi => ?_) (fun x k k0 k2 hh => ?_) (fun _ => ⟨?_, ?_⟩)) ?_ ?_ ?_
        · rw [m9.c 143 (by decide) (by decide), m2.c 143 (by decide) (by decide), m1.c 143 (by decide) (by decide)]; exact h43
        · rw [m9.f 139 32 (by decide) (by decide)]; exact g32
        · rw [x50]; exact e50 x hx
        · rw [x51, g51n _ (by omega)]; exact c51 _
        · rw [x50]; exact e50t
        · rw [x60, g60n i hi]; exact c60 i
        · rw [x52, g52n _ (by omega)]; exact c52 _
        · rw [x52]; exact g52
        · rw [x60]; exact g60
        · exact (x51 _).trans g51
        · rw [m9.c 144 (by decide) (by decide), m2.c 144 (by decide) (by decide), m1.c 144 (by decide) (by decide)]
        · rw [m9.c 142 (by decide) (by decide), m2.c 142 (by decide) (by decide), m1.c 142 (by decide) (by decide)]; exact h42
      (repeat' (with_reducible first | refine ⟨?_, ?_⟩ | intro _))
      all_goals first | omega | exact kk s2 md.rf c2 | skip
      exact c_X11_must c2 fun s9 m9 c9 _ => kk s9 m9 c9
    · have e1 : m = 1 := by omega
      have m2 : md [(139, 32)] [151] s1 (ui (ui s1 151 (40 * b + t) v) 139 32 (m - 1)) := (by repeat' (first | exact md.rf | assumption | refine md.ui ?_ ?_ | refine md.uj ?_ ?_ | exact Or.inr (by decide) | exact Or.inl (by decide)))
      have r2 : RM b s1 (ui (ui s1 151 (40 * b + t) v) 139 32 (m - 1)) := (RM.rf.ui (by unfold RW; omega)).ui (by unfold RW; omega)
      have g32 : (ui (ui s1 151 (40 * b + t) v) 139 32 (m - 1)).1 139 32 = m - 1 := ui_same
      have g51 : (ui (ui s1 151 (40 * b + t) v) 139 32 (m - 1)).1 151 (40 * b + t) = v := by rw [ui_cell (by decide), ui_same]
      have g51n : ∀ z, z ≠ 40 * b + t → (ui (ui s1 151 (40 * b + t) v) 139 32 (m - 1)).1 151 z = s1.1 151 z := fun z hz => by rw [ui_cell (by decide), ui_ne hz]
      generalize ui (ui s1 151 (40 * b + t) v) 139 32 (m - 1) = s2 at *
      have c2 : RDC s2 := (hc.keep m1 (by decide) (by decide)).keep m2 (by decide) (by decide)
      refine fin s2 0 (r1.tr r2) c2 ?_ (Or.inl rfl) fun _ => ⟨popA s2 ((m1.mono (by decide) (by decide)).tr (m2.mono (by decide) (by decide))) (fun x hx => ⟨?_, ?_⟩) ?_ (fun i hi => ?_) (fun x k k0 k2 hh => ?_) (fun h => absurd h (by omega)), g51, ?_, g32, ?_, fun h => absurd h (by omega), fun _ => rfl⟩
      · rw [m2.c 143 (by decide) (by decide), m1.c 143 (by decide) (by decide)]; exact h43
      · rw [m2.c 150 (by decide) (by decide)]; exact e50 x hx
      · rw [g51n _ (by omega)]; exact c51 _
      · rw [m2.c 150 (by decide) (by decide)]; exact e50t
      · rw [m2.c 160 (by decide) (by decide)]; exact c60 i
      · rw [m2.c 152 (by decide) (by decide)]; exact c52 _
      · rw [m2.c 144 (by decide) (by decide), m1.c 144 (by decide) (by decide)]
      · rw [m2.c 142 (by decide) (by decide), m1.c 142 (by decide) (by decide)]; exact h42
