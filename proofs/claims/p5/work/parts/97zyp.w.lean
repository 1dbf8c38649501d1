/-! READING ALIKE: the reference ends a place, exactly -/
theorem r_ends {s : ST} {b m n R nD : Int} {Q : ST → Int → Prop} (h : RP s b m n R nD (s.1 144 b)) (hb : 0 ≤ b ∧ b ≤ 1) (h29 : s.1 139 29 = b) (h32 : s.1 139 32 = m) (h42 : s.1 142 b = n) (h43 : s.1 143 b = nD) (hc : RDC s) (hm : 1 ≤ m) (htop : ar (s.1 146 (40 * b + s.1 159 (m - 1))) ≤ s.1 160 (m - 1))
    (hQ0 : m = 1 → ∀ s2, md [(139, 32)] [150, 151, 152, 160] s s2 → RM b s s2 → RDC s2 → s2.1 139 32 = 0 → POP s s2 b m n (s.1 159 (m - 1)) → RP s2 b 0 n R nD (s.1 144 b) → ben s2 b R = n - 1 → R < n → Q s2 0)
    (hQ1 : 2 ≤ m → ∀ s2, md [(139, 32)] [150, 151, 152, 160] s s2 → RM b s s2 → RDC s2 → s2.1 139 32 = m - 1 → POP s s2 b m n (s.1 159 (m - 1)) → RP s2 b (m - 1) n R nD (s.1 144 b) → (¬ (s.1 146 (40 * b + s.1 159 (m - 2)) = 4 ∧ s.1 160 (m - 2) + 1 = 1) → K_X11_endsPlace_190 s2 (40 * b + s.1 159 (m - 2)) Q) ∧ (s.1 146 (40 * b + s.1 159 (m - 2)) = 4 ∧ s.1 160 (m - 2) + 1 = 1 → C_X11_must s2 (F_X11_isWord s2 26990) (fun s21 => K_X11_endsPlace_190 s21 (40 * b + s.1 159 (m - 2)) Q))) : C_X11_endsPlace s Q := by
  obtain ⟨ra, rb, rc, rd, re⟩ := id h
  obtain ⟨a1, a2, a3, a4, a5, a6, a7, a8, a9, a10⟩ := ra
  have hT := rd.2 (m - 1) (by omega) (by omega)
  obtain ⟨⟨t1, t2, t3⟩, t4, t5, t6, t7, t8, t9⟩ := id hT
  have tc : ar (bso s b (s.1 159 (m - 1))) = ar (s.1 146 (40 * b + s.1 159 (m - 1))) := rfl
  have hrd := rd
  refine s_X11_endsPlace ?_
  rw [h32, h29, h42]
  generalize ht : s.1 159 (m - 1) = t at *
  have m1 : md [] [150] s (ui s 150 (40 * b + t) (n - 1)) := (by repeat' (first | exact md.rf | assumption | refine md.ui ?_ ?_ | refine md.uj ?_ ?_ | exact Or.inr (by decide) | exact Or.inl (by decide)))
  have r1 : RM b s (ui s 150 (40 * b + t) (n - 1)) := RM.rf.ui (by unfold RW; omega)
  have e50 : ∀ x, x ≠ t → (ui s 150 (40 * b + t) (n - 1)).1 150 (40 * b + x) = s.1 150 (40 * b + x) := fun x hx => ui_ne (by omega)
  have e50t : (ui s 150 (40 * b + t) (n - 1)).1 150 (40 * b + t) = n - 1 := ui_same
  have hodt : s.1 160 (m - 1) = ar (bso s b t) := by omega
  have har := ar_r (bso s b t)
  simp only [ar_F]
  refine fun _ => ⟨?_, ?_, ?_, ?_, ?_, ?_, fun hh => absurd htop hh⟩
  · unfold R32; omega
  · omega
  · unfold R32; omega
  · unfold R32; omega
  · omega
  intro _
  refine ⟨by omega, ?_, ?_⟩
  · unfold R32; omega
  generalize ui s 150 (40 * b + t) (n - 1) = s1 at *
  have c46 : ∀ z, s1.1 146 z = s.1 146 z := fun z => m1.c 146 (by decide) (by decide) z
  have c51 : ∀ z, s1.1 151 z = s.1 151 z := fun z => m1.c 151 (by decide) (by decide) z
  have c52 : ∀ z, s1.1 152 z = s.1 152 z := fun z => m1.c 152 (by decide) (by decide) z
  have c53 : ∀ z, s1.1 153 z = s.1 153 z := fun z => m1.c 153 (by decide) (by decide) z
  have c45 : ∀ z, s1.1 145 z = s.1 145 z := fun z => m1.c 145 (by decide) (by decide) z
  have c59 : ∀ z, s1.1 159 z = s.1 159 z := fun z => m1.c 159 (by decide) (by decide) z
  have c60 : ∀ z, s1.1 160 z = s.1 160 z := fun z => m1.c 160 (by decide) (by decide) z
  have d32 : s1.1 139 32 = m := by rw [m1.f 139 32 (by decide) (by decide)]; exact h32
  have d29 : s1.1 139 29 = b := by rw [m1.f 139 29 (by decide) (by decide)]; exact h29
  have f46 : bso s1 b = bso s b := funext fun x => c46 _
  have f51 : bas s1 b = bas s b := funext fun x => c51 _
  have f52 : bkd s1 b = bkd s b := funext fun x => funext fun k => c52 _
  have f53 : bbi s1 b = bbi s b := funext fun x => c53 _
  have f45 : bdR s1 b = bdR s b := funext fun x => c45 _
  have eR : ∀ p, F_X11_rootOf s1 b p = F_X11_rootOf s b p := fun p => by
    unfold F_X11_rootOf; rw [c53, c46, c52, c45]
  refine c_X11_asksHere (by omega) (by omega) (fun k k0 k1 => ?_) (fun h2 => ?_) fun v hv hv2 => ?_
  · rw [c46] at k1
    have hk : s1.1 152 (3 * (40 * b + t) + k) = bkd s b t k := c52 _
    rw [hk, c51]
    have h9 := t9 k k0 (by omega)
    have hkn := hrd.kidn (i := m - 1) (k := k) (by omega) (by omega) k0 (by omega)
    have hkc := hrd.kidc (i := m - 1) (k := k) (by omega) (by omega) k0 (by omega)
    rw [ht] at hkn hkc
    exact ⟨by omega, h.as (by omega) (by omega) hkc⟩
  · rw [c46] at h2
    obtain ⟨pr, hr⟩ := h.root hb (show 0 ≤ t by omega) t1.2 h2
    rw [eR, c51]
    refine ⟨?_, hr⟩
    unfold P_X11_rootOf at pr ⊢
    rw [c53, c46]
    exact pr
  · rw [f46, f51, f52, f53, f45] at hv2
    rw [d32, d29]
    simp only [c59, c60, c46]
    have popA : ∀ s9, md ((139, 32) :: mF) [150, 151, 152, 160] s s9 → (∀ x, x ≠ t → s9.1 150 (40 * b + x) = s.1 150 (40 * b + x) ∧ s9.1 151 (40 * b + x) = s.1 151 (40 * b + x)) → s9.1 150 (40 * b + t) = n - 1 → (∀ i, i ≠ m - 2 → s9.1 160 i = s.1 160 i) → (∀ x k, 0 ≤ k → k ≤ 2 → (m = 1 ∨ x ≠ s.1 159 (m - 2) ∨ k ≠ s.1 160 (m - 2)) → s9.1 152 (3 * (40 * b + x) + k) = s.1 152 (3 * (40 * b + x) + k)) → (2 ≤ m → s9.1 152 (3 * (40 * b + s.1 159 (m - 2)) + s.1 160 (m - 2)) = t ∧ s9.1 160 (m - 2) = s.1 160 (m - 2) + 1) → POP s s9 b m n t := fun s9 m9 q1 q2 q3 q4 q5 => ⟨fun x => ⟨m9.c 146 (by decide) (by decide) _, m9.c 153 (by decide) (by decide) _, m9.c 149 (by decide) (by decide) _, m9.c 154 (by decide) (by decide) _, m9.c 155 (by decide) (by decide) _, m9.c 145 (by decide) (by decide) _, m9.c 156 (by decide) (by decide) _⟩, q1, q2, fun i => m9.c 159 (by decide) (by decide) i, q3, q4, q5⟩
    have goR : ∀ s9, POP s s9 b m n t → bas s9 b t = v → RP s9 b (m - 1) n R nD (s.1 144 b) := fun s9 pop has => pop.go h hm ht.symm (by omega) (by rw [has]; exact ⟨hv, hv2⟩)
    have hg0 : 40 * b + t ≠ 40 * b + t → False := fun h => h rfl
    refine ⟨by unfold R32; omega, fun hn1 => ?_, fun he1 => ?_⟩
    · have hm2 : 2 ≤ m := by omega
      have hq2 := (hrd.2 (m - 2) (by omega) (by omega)).1
      have hq3 := ar_r (bso s b (s.1 159 (m - 2)))
      rw [show m - 1 - 1 = m - 2 by omega]
      have hQ1' := hQ1 hm2
      generalize hq : s.1 159 (m - 2) = q at *
      generalize ho : s.1 160 (m - 2) = od at *
      have m2 : md [(139, 32)] [151, 152, 160] s1 (ui (ui (ui (ui s1 151 (40 * b + t) v) 139 32 (m - 1)) 152 (3 * (40 * b + q) + od) t) 160 (m - 2) (od + 1)) := (by repeat' (first | exact md.rf | assumption | refine md.ui ?_ ?_ | refine md.uj ?_ ?_ | exact Or.inr (by decide) | exact Or.inl (by decide)))
      have r2 : RM b s1 (ui (ui (ui (ui s1 151 (40 * b + t) v) 139 32 (m - 1)) 152 (3 * (40 * b + q) + od) t) 160 (m - 2) (od + 1)) := (((RM.rf.ui (by unfold RW; omega)).ui (by unfold RW; omega)).ui (by unfold RW; omega)).ui (by unfold RW; omega)
      have g32 : (ui (ui (ui (ui s1 151 (40 * b + t) v) 139 32 (m - 1)) 152 (3 * (40 * b + q) + od) t) 160 (m - 2) (od + 1)).1 139 32 = m - 1 := by rw [ui_cell (by decide), ui_cell (by decide), ui_same]
      have g51 : (ui (ui (ui (ui s1 151 (40 * b + t) v) 139 32 (m - 1)) 152 (3 * (40 * b + q) + od) t) 160 (m - 2) (od + 1)).1 151 (40 * b + t) = v := by rw [ui_cell (by decide), ui_cell (by decide), ui_cell (by decide), ui_same]
      have g51n : ∀ z, z ≠ 40 * b + t → (ui (ui (ui (ui s1 151 (40 * b + t) v) 139 32 (m - 1)) 152 (3 * (40 * b + q) + od) t) 160 (m - 2) (od + 1)).1 151 z = s1.1 151 z := fun z hz => by rw [ui_cell (by decide), ui_cell (by decide), ui_cell (by decide), ui_ne hz]
      have g52 : (ui (ui (ui (ui s1 151 (40 * b + t) v) 139 32 (m - 1)) 152 (3 * (40 * b + q) + od) t) 160 (m - 2) (od + 1)).1 152 (3 * (40 * b + q) + od) = t := by rw [ui_cell (by decide), ui_same]
      have g52n : ∀ z, z ≠ 3 * (40 * b + q) + od → (ui (ui (ui (ui s1 151 (40 * b + t) v) 139 32 (m - 1)) 152 (3 * (40 * b + q) + od) t) 160 (m - 2) (od + 1)).1 152 z = s1.1 152 z := fun z hz => by rw [ui_cell (by decide), ui_ne hz, ui_cell (by decide), ui_cell (by decide)]
      have g60 : (ui (ui (ui (ui s1 151 (40 * b + t) v) 139 32 (m - 1)) 152 (3 * (40 * b + q) + od) t) 160 (m - 2) (od + 1)).1 160 (m - 2) = od + 1 := ui_same
      have g60n : ∀ i, i ≠ m - 2 → (ui (ui (ui (ui s1 151 (40 * b + t) v) 139 32 (m - 1)) 152 (3 * (40 * b + q) + od) t) 160 (m - 2) (od + 1)).1 160 i = s1.1 160 i := fun i hi => by rw [ui_ne hi, ui_cell (by decide), ui_cell (by decide), ui_cell (by decide)]
      generalize ui (ui (ui (ui s1 151 (40 * b + t) v) 139 32 (m - 1)) 152 (3 * (40 * b + q) + od) t) 160 (m - 2) (od + 1) = s2 at *
      have c2 : RDC s2 := (hc.keep m1 (by decide) (by decide)).keep m2 (by decide) (by decide)
      have pop2 : POP s s2 b m n t := by
        refine popA s2 ((m1.mono (by decide) (by decide)).tr (m2.mono (by decide) (by decide))) (fun x hx => ⟨?_, ?_⟩) ?_ (fun i hi => ?_) (fun x k k0 k2 hh => ?_) (fun _ => ⟨?_, ?_⟩)
        · rw [m2.c 150 (by decide) (by decide)]; exact e50 x hx
        · rw [g51n _ (by omega)]; exact c51 _
        · rw [m2.c 150 (by decide) (by decide)]; exact e50t
        · rw [g60n i hi]; exact c60 i
        · rw [g52n _ (by omega)]; exact c52 _
        · exact g52
        · exact g60
      obtain ⟨kn, ky⟩ := hQ1' s2 ((m1.mono (by decide) (by decide)).tr (m2.mono (by decide) (by decide))) (r1.tr r2) c2 g32 pop2 (goR s2 pop2 g51)
      rw [g60]
      (repeat' (with_reducible first | refine ⟨?_, ?_⟩ | intro _))
      all_goals first | omega | exact kn (by omega) | exact ky (by omega)
    · have e1 : m = 1 := by omega
      have m2 : md [(139, 32)] [151] s1 (ui (ui s1 151 (40 * b + t) v) 139 32 (m - 1)) := (by repeat' (first | exact md.rf | assumption | refine md.ui ?_ ?_ | refine md.uj ?_ ?_ | exact Or.inr (by decide) | exact Or.inl (by decide)))
      have r2 : RM b s1 (ui (ui s1 151 (40 * b + t) v) 139 32 (m - 1)) := (RM.rf.ui (by unfold RW; omega)).ui (by unfold RW; omega)
      have g32 : (ui (ui s1 151 (40 * b + t) v) 139 32 (m - 1)).1 139 32 = m - 1 := ui_same
      have g51 : (ui (ui s1 151 (40 * b + t) v) 139 32 (m - 1)).1 151 (40 * b + t) = v := by rw [ui_cell (by decide), ui_same]
      have g51n : ∀ z, z ≠ 40 * b + t → (ui (ui s1 151 (40 * b + t) v) 139 32 (m - 1)).1 151 z = s1.1 151 z := fun z hz => by rw [ui_cell (by decide), ui_ne hz]
      generalize ui (ui s1 151 (40 * b + t) v) 139 32 (m - 1) = s2 at *
      have c2 : RDC s2 := (hc.keep m1 (by decide) (by decide)).keep m2 (by decide) (by decide)
      have pop2 : POP s s2 b m n t := by
        refine popA s2 ((m1.mono (by decide) (by decide)).tr (m2.mono (by decide) (by decide))) (fun x hx => ⟨?_, ?_⟩) ?_ (fun i hi => ?_) (fun x k k0 k2 hh => ?_) (fun h => absurd h (by omega))
        · rw [m2.c 150 (by decide) (by decide)]; exact e50 x hx
        · rw [g51n _ (by omega)]; exact c51 _
        · rw [m2.c 150 (by decide) (by decide)]; exact e50t
        · rw [m2.c 160 (by decide) (by decide)]; exact c60 i
        · rw [m2.c 152 (by decide) (by decide)]; exact c52 _
      have rp := goR s2 pop2 g51
      have h59 := hrd.1 (by omega)
      rw [e1, show (1 : Int) - 1 = 0 by omega] at ht rp g32
      refine hQ0 e1 s2 ((m1.mono (by decide) (by decide)).tr (m2.mono (by decide) (by decide))) (r1.tr r2) c2 g32 pop2 rp ?_ (by omega)
      rw [← h59, ht]; exact pop2.2.2.1

theorem e_bp239 {s s' : ST} {b m n R nD so bi : Int} {Q : ST → Int → Prop} (h : RP s b m n R nD (s.1 144 b)) (hb : 0 ≤ b ∧ b ≤ 1) (h32 : s.1 139 32 = m) (h43 : s.1 143 b = nD) (h0 : m = 0 → n = R) (htop : 0 < m → s.1 160 (m - 1) < ar (bso s b (s.1 159 (m - 1)))) (hn : n ≤ 39) (hm : m ≤ 20) (hso : 0 ≤ so ∧ so ≤ 16) (hno : so ≠ 2 → bi = -1) (hbi : so = 2 → s'.1 139 4 = 0 → (∃ i, (0 ≤ i ∧ i < m) ∧ bi = s.1 159 i ∧ (s.1 146 (40 * b + s.1 159 i) = 3 ∨ s.1 146 (40 * b + s.1 159 i) = 4 ∧ s.1 160 i = 1)) ∨ (100 ≤ bi ∧ bi < 100 + nD)) (p : PB1 s s' b n so bi) (hQ : ∀ v, BPO s (ui (ui (ui s' 159 m n) 160 m 0) 139 32 (m + 1)) b m n R nD v → Q (ui (ui (ui s' 159 m n) 160 m 0) 139 32 (m + 1)) v) : K_X11_beginsPlace_239 s' so n Q := by
  obtain ⟨p1, p2, p3, p4, ⟨p5, p6, p7, p8⟩, p9, p10, p11, p12⟩ := p
  obtain ⟨ra, rb, rc, rd, re⟩ := id h
  obtain ⟨a1, a2, a3, a4, a5⟩ := ra
  have f32 : s'.1 139 32 = m := by rw [p1.f 139 32 (by decide) (by decide)]; exact h32
  have mG : md [(139, 32)] [159, 160] s' (ui (ui (ui s' 159 m n) 160 m 0) 139 32 (m + 1)) := (by repeat' (first | exact md.rf | assumption | refine md.ui ?_ ?_ | refine md.uj ?_ ?_ | exact Or.inr (by decide) | exact Or.inl (by decide)))
  have rG : RM b s (ui (ui (ui s' 159 m n) 160 m 0) 139 32 (m + 1)) := ((p2.ui (by unfold RW; omega)).ui (by unfold RW; omega)).ui (by unfold RW; omega)
  have g32 : (ui (ui (ui s' 159 m n) 160 m 0) 139 32 (m + 1)).1 139 32 = m + 1 := ui_same
  have g59 : ∀ i, i ≠ m → (ui (ui (ui s' 159 m n) 160 m 0) 139 32 (m + 1)).1 159 i = s'.1 159 i := fun i hi => by rw [ui_cell (by decide), ui_cell (by decide), ui_ne hi]
  have g59m : (ui (ui (ui s' 159 m n) 160 m 0) 139 32 (m + 1)).1 159 m = n := by rw [ui_cell (by decide), ui_cell (by decide), ui_same]
  have g60 : ∀ i, i ≠ m → (ui (ui (ui s' 159 m n) 160 m 0) 139 32 (m + 1)).1 160 i = s'.1 160 i := fun i hi => by rw [ui_cell (by decide), ui_ne hi, ui_cell (by decide)]
  have g60m : (ui (ui (ui s' 159 m n) 160 m 0) 139 32 (m + 1)).1 160 m = 0 := by rw [ui_cell (by decide), ui_same]
  refine s_X11_beginsPlace_239 ?_
  rw [f32]
  have fin : ∀ v, (v = 0 ∨ v = 1) → ((ui (ui (ui s' 159 m n) 160 m 0) 139 32 (m + 1)).1 139 4 = 0 → (v = 0 → ar so = 0) ∧ (v = 1 → 0 < ar so)) → Q (ui (ui (ui s' 159 m n) 160 m 0) 139 32 (m + 1)) v := by
    intro v hv har
    generalize ui (ui (ui s' 159 m n) 160 m 0) 139 32 (m + 1) = s9 at *
    have e4 := mG.f 139 4 (by decide) (by decide)
    have c : ∀ a z, a ≠ 139 → a ≠ 159 → a ≠ 160 → s9.1 a z = s'.1 a z := fun a z h1 h2 h3 => (mG a z (fun q => by
      simp only [List.mem_cons, Prod.mk.injEq, List.not_mem_nil, or_false] at q
      omega) (fun q => by
      simp only [List.mem_cons, List.not_mem_nil, or_false] at q
      omega)).1
    have c46 := fun z => c 146 z (by decide) (by decide) (by decide)
    refine hQ v ⟨rG, p3.keep mG (by decide) (by decide), ?_, hv, fun h4 => ⟨?_, g32, ?_, g60m, fun hv0 => ?_, fun hv1 => ?_⟩⟩
    · rw [c 143 b (by decide) (by decide) (by decide), p1.c 143 (by decide) (by decide)]; exact h43
    · rw [c 144 b (by decide) (by decide) (by decide)]
      have hne : ∀ x, x ≠ n → 40 * b + x ≠ 40 * b + n := fun x hx => by omega
      have psh : PSH s s9 b m n (s.1 144 b) (s'.1 144 b) := by
        refine ⟨fun x hx => ?_, fun x => ⟨?_, ?_, ?_⟩, fun x k => ?_, fun k hk => ?_, ⟨p9.1, p9.2, fun k k0 k1 => ?_⟩, fun i hi => ⟨?_, ?_⟩, g59m, g60m⟩
        · obtain ⟨e1, e2, e3, e4, e5⟩ := p4 (40 * b + x) (hne x hx)
          exact ⟨(c46 _).trans e1, (c 153 _ (by decide) (by decide) (by decide)).trans e3, (c 149 _ (by decide) (by decide) (by decide)).trans e2, (c 154 _ (by decide) (by decide) (by decide)).trans e4, (c 155 _ (by decide) (by decide) (by decide)).trans e5⟩
        · exact (c 150 _ (by decide) (by decide) (by decide)).trans (p1.c 150 (by decide) (by decide) _)
        · exact (c 151 _ (by decide) (by decide) (by decide)).trans (p1.c 151 (by decide) (by decide) _)
        · exact (c 145 _ (by decide) (by decide) (by decide)).trans (p1.c 145 (by decide) (by decide) _)
        · exact (c 152 _ (by decide) (by decide) (by decide)).trans (p1.c 152 (by decide) (by decide) _)
        · exact (c 156 _ (by decide) (by decide) (by decide)).trans (p10 k hk)
        · show 0 ≤ s9.1 156 (20 * b + k) ∧ s9.1 156 (20 * b + k) ≤ 5
          rw [c 156 _ (by decide) (by decide) (by decide)]; exact p11 k (by omega) k1
        · rw [g59 i hi]; exact p1.c 159 (by decide) (by decide) i
        · rw [g60 i hi]; exact p1.c 160 (by decide) (by decide) i
      have eso : bso s9 b n = so := (c46 _).trans p6
      have ebi : bbi s9 b n = bi := (c 153 _ (by decide) (by decide) (by decide)).trans p8
      have edO : bdO s9 b n = nD := ((c 149 _ (by decide) (by decide) (by decide)).trans p7).trans h43
      have ekA : bkA s9 b n = s'.1 154 (40 * b + n) := c 154 _ (by decide) (by decide) (by decide)
      have ekL : bkL s9 b n = s'.1 155 (40 * b + n) := c 155 _ (by decide) (by decide) (by decide)
      have ekC : bkC s9 b = bkC s' b := funext fun k => c 156 _ (by decide) (by decide) (by decide)
      refine psh.go h hn hm h0 htop (by rw [eso]; exact hso) (fun h2 => ?_) (fun h2 => by rw [eso] at h2; rw [ebi]; exact hno h2) edO (fun h16 => ?_)
      · rw [eso] at h2
        unfold NMC
        rw [ebi, edO]
        rcases hbi h2 (by omega) with ⟨i, ⟨i0, i1⟩, e, hk⟩ | hbi
        · have hi := rd.2 i i0 i1
          have hi1 := hi.1.1
          refine ⟨fun _ => ⟨⟨by omega, by omega, Or.inl ⟨i, ⟨i0, by omega⟩, ?_⟩⟩, ?_⟩, fun hg => by omega⟩
          · rw [(psh.2.2.2.2.2.1 i (by omega)).1]; exact e.symm
          · have e46 : bso s9 b bi = s.1 146 (40 * b + s.1 159 i) := by rw [e]; exact (psh.1 _ (by omega)).1
            rw [e46]
            refine hk.imp id fun ⟨h4, h1⟩ => ⟨⟨h4, ?_⟩, fun j j0 j1 hj => ?_⟩
            · rw [psh.2.2.1, (psh.2.1 _).1, e]
              have h6 := hi.2.2.2.2.2.1 (by omega)
              rw [h1, show (1 : Int) - 1 = 0 by omega] at h6
              unfold nxt at h6
              by_cases c2 : i + 1 < m
              · rw [if_pos c2] at h6
                have := (rd.2 (i + 1) (by omega) c2).1.1
                omega
              · rw [if_neg c2] at h6; omega
            · by_cases c2 : j = m
              · rw [c2, g59m] at hj; omega
              · rw [(psh.2.2.2.2.2.1 j c2).1] at hj
                rw [(psh.2.2.2.2.2.1 j c2).2]
                have := rd.inj (i := j) (j := i) j0 (by omega) i0 i1 (hj.trans e)
                rw [this]; omega
        · exact ⟨fun hl => by omega, fun _ => by omega⟩
      · rw [eso] at h16
        rw [ekA, ekL, ekC]
        exact p12 h16 (by omega)
    · rw [c 142 b (by decide) (by decide) (by decide)]; exact p5
    · rw [g59m, c46, p6]; exact (har h4).1 hv0
    · rw [g59m, c46, p6]; exact (har h4).2 hv1
  simp only [ar_F]
  (repeat' (with_reducible first | refine ⟨?_, ?_⟩ | intro _))
  all_goals first | omega | skip
  all_goals exact fin _ (by omega) (fun h4 => ⟨fun hh => by have := ar_r so; omega, fun hh => by omega⟩)
