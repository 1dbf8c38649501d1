/-! THE REFERENCE: beginsPlace -/
theorem sortHere_r (s : ST) : -1 ≤ F_X11_sortHere s ∧ F_X11_sortHere s ≤ 16 := by
  unfold F_X11_sortHere
  repeat' split
  all_goals omega
def PB0 (s s' : ST) (b n so bi : Int) : Prop := md mF [142, 146, 147, 148, 149, 153, 158] s s' ∧ RM b s s' ∧ RDC s' ∧ (∀ z, z ≠ 40 * b + n → s'.1 146 z = s.1 146 z ∧ s'.1 149 z = s.1 149 z ∧ s'.1 153 z = s.1 153 z) ∧ s'.1 142 b = n + 1 ∧ s'.1 146 (40 * b + n) = so ∧ s'.1 149 (40 * b + n) = s.1 143 b ∧ s'.1 153 (40 * b + n) = bi
def PB1 (s s' : ST) (b n so bi : Int) : Prop := md mF [142, 144, 146, 147, 148, 149, 153, 154, 155, 156, 158] s s' ∧ RM b s s' ∧ RDC s' ∧ (∀ z, z ≠ 40 * b + n → s'.1 146 z = s.1 146 z ∧ s'.1 149 z = s.1 149 z ∧ s'.1 153 z = s.1 153 z ∧ s'.1 154 z = s.1 154 z ∧ s'.1 155 z = s.1 155 z) ∧ (s'.1 142 b = n + 1 ∧ s'.1 146 (40 * b + n) = so ∧ s'.1 149 (40 * b + n) = s.1 143 b ∧ s'.1 153 (40 * b + n) = bi) ∧ (s.1 144 b ≤ s'.1 144 b ∧ s'.1 144 b ≤ 20) ∧ (∀ k, k < s.1 144 b → s'.1 156 (20 * b + k) = s.1 156 (20 * b + k)) ∧ (∀ k, 0 ≤ k → k < s'.1 144 b → 0 ≤ s'.1 156 (20 * b + k) ∧ s'.1 156 (20 * b + k) ≤ 5) ∧ (so = 16 → s'.1 139 4 = 0 → (0 ≤ s'.1 154 (40 * b + n) ∧ 1 ≤ s'.1 155 (40 * b + n) ∧ s'.1 154 (40 * b + n) + s'.1 155 (40 * b + n) ≤ s'.1 144 b) ∧ KW (bkC s' b) (s'.1 154 (40 * b + n)) (s'.1 155 (40 * b + n)))
theorem PB0.md {s s' s2 : ST} {b n so bi : Int} (h : PB0 s s' b n so bi) (hm : md mF [158] s' s2) (hr : RM b s' s2) (hc : RDC s2) : PB0 s s2 b n so bi := by
  obtain ⟨p1, p2, p3, p4, p5, p6, p7, p8⟩ := h
  refine ⟨p1.tr (hm.mono (by decide) (by decide)), p2.tr hr, hc, fun z hz => ?_, ?_, ?_, ?_, ?_⟩
  · rw [hm.c 146 (by decide) (by decide), hm.c 149 (by decide) (by decide), hm.c 153 (by decide) (by decide)]; exact p4 z hz
  · rw [hm.c 142 (by decide) (by decide)]; exact p5
  · rw [hm.c 146 (by decide) (by decide)]; exact p6
  · rw [hm.c 149 (by decide) (by decide)]; exact p7
  · rw [hm.c 153 (by decide) (by decide)]; exact p8
/-- what beginsPlace leaves -/
def BPO (s s' : ST) (b m n R nD v : Int) : Prop := RM b s s' ∧ RDC s' ∧ s'.1 143 b = nD ∧ (v = 0 ∨ v = 1) ∧ (s'.1 139 4 = 0 → RP s' b (m + 1) (n + 1) R nD (s'.1 144 b) ∧ s'.1 139 32 = m + 1 ∧ s'.1 142 b = n + 1 ∧ s'.1 160 m = 0 ∧ (v = 0 → ar (s'.1 146 (40 * b + s'.1 159 m)) = 0) ∧ (v = 1 → 0 < ar (s'.1 146 (40 * b + s'.1 159 m))))
theorem k_bp239 {s s' : ST} {b m n R nD so bi : Int} {Q : ST → Int → Prop} (h : RP s b m n R nD (s.1 144 b)) (hb : 0 ≤ b ∧ b ≤ 1) (h32 : s.1 139 32 = m) (h43 : s.1 143 b = nD) (h0 : m = 0 → n = R) (htop : 0 < m → s.1 160 (m - 1) < ar (bso s b (s.1 159 (m - 1)))) (hn : n ≤ 39) (hm : m ≤ 20) (hso : 0 ≤ so ∧ so ≤ 16) (hno : so ≠ 2 → bi = -1) (hbi : so = 2 → s'.1 139 4 = 0 → (∃ i, (0 ≤ i ∧ i < m) ∧ bi = s.1 159 i ∧ (s.1 146 (40 * b + s.1 159 i) = 3 ∨ s.1 146 (40 * b + s.1 159 i) = 4 ∧ s.1 160 i = 1)) ∨ (100 ≤ bi ∧ bi < 100 + nD)) (p : PB1 s s' b n so bi) (hQ : ∀ s' v, BPO s s' b m n R nD v → Q s' v) : K_X11_beginsPlace_239 s' so n Q := by
  obtain ⟨p1, p2, p3, p4, ⟨p5, p6, p7, p8⟩, p9, p10, p11, p12⟩ := p
  obtain ⟨ra, rb, rc, rd, re⟩ := id h
  obtain ⟨a1, a2, a3, a4, a5⟩ := ra
  have f32 : s'.1 139 32 = m := by rw [p1.f 139 32 (by decide) (by decide)]; exact h32
  have mG : md [(139, 32)] [159, 160] s' (ui (ui (ui s' 159 m n) 160 m 0) 139 32 (m + 1)) := (by repeat' (first | exact md.rf | assumption | refine md.ui ?_ ?_ | refine md.uj ?_ ?_ | exact Or.inr (by decide) | exact Or.inl (by decide)))
  have rG : RM b s (ui (ui (ui s' 159 m n) 160 m 0) 139 32 (m + 1)) := ((p2.ui (by unfold RW; omega)).ui (by unfold RW; omega)).ui (by unfold RW; omega)
  have g32 : (ui (ui (ui s' 159 m n) 160 m 0) 139 32 (m + 1)).1 139 32 = m + 1 := ui_same
  have g59 : ∀ i, i ≠ m → (ui (ui (ui s' 159 m n) 160 m 0) 139 32 (m + 1)).1 159 i = s'.1 159 i := fun i hi => by rw [ui_cell (by decide), ui_cell (by decide), ui_ne hi]
  have g59m : (ui (ui (ui s' 159 m n) 160 m 0) 139 32 (m + 1)).1 159 m = n := by rw [ui_cell (by decide), ui_cell (by decide), ui_same]
  have g60 : ∀ i, i ≠ m → (ui (ui (ui s' 159 m n) 160 m 0) 139 32 (m + 1)).1 160 i = s'.1 160 i := fun i hi => by rw [ui_cell (by decide), ui_ne hi, ui_cell (by decide)]
  have g60m : (ui (ui (ui s' 159 m n) 160 m 0) 139 32 (m + 1)).1 160 m = 0 := by rw [ui_cell (by decide), ui_same]
  refine s_X11_beginsPlace_239 ?_
  rw [f32]
  have fin : ∀ v, (v = 0 ∨ v = 1) → ((ui (ui (ui s' 159 m n) 160 m 0) 139 32 (m + 1)).1 139 4 = 0 → (v = 0 → ar so = 0) ∧ (v = 1 → 0 < ar so)) → Q (ui (ui (ui s' 159 m n) 160 m 0) 139 32 (m + 1)) v := by
    intro v hv har
    generalize ui (ui (ui s' 159 m n) 160 m 0) 139 32 (m + 1) = s9 at *
    have e4 := mG.f 139 4 (by decide) (by decide)
    have c : ∀ a z, a ≠ 139 → a ≠ 159 → a ≠ 160 → s9.1 a z = s'.1 a z := fun a z h1 h2 h3 => (mG a z (fun q => by
      simp only [List.mem_cons, Prod.mk.injEq, List.not_mem_nil, or_false] at q
      omega) (fun q => by
      simp only [List.mem_cons, List.not_mem_nil, or_false] at q
      omega)).1
    have c46 := fun z => c 146 z (by decide) (by decide) (by decide)
    refine hQ s9 v ⟨rG, p3.keep mG (by decide) (by decide), ?_, hv, fun h4 => ⟨?_, g32, ?_, g60m, fun hv0 => ?_, fun hv1 => ?_⟩⟩
    · rw [c 143 b (by decide) (by decide) (by decide), p1.c 143 (by decide) (by decide)]; exact h43
    · rw [c 144 b (by decide) (by decide) (by decide)]
      have hne : ∀ x, x ≠ n → 40 * b + x ≠ 40 * b + n := fun x hx => by omega
      have psh : PSH s s9 b m n (s.1 144 b) (s'.1 144 b) := by
        refine ⟨fun x hx => ?_, fun x => ⟨?_, ?_, ?_⟩, fun x k => ?_, fun k hk => ?_, ⟨p9.1, p9.2, fun k k0 k1 => ?_⟩, fun i hi => ⟨?_, ?_⟩, g59m, g60m⟩
        · obtain ⟨e1, e2, e3, e4, e5⟩ := p4 (40 * b + x) (hne x hx)
          exact ⟨(c46 _).trans e1, (c 153 _ (by decide) (by decide) (by decide)).trans e3, (c 149 _ (by decide) (by decide) (by decide)).trans e2, (c 154 _ (by decide) (by decide) (by decide)).trans e4, (c 155 _ (by decide) (by decide) (by decide)).trans e5⟩
        · exact (c 150 _ (by decide) (by decide) (by decide)).trans (p1.c 150 (by decide) (by decide) _)
        · exact (c 151 _ (by decide) (by decide) (by decide)).trans (p1.c 151 (by decide) (by decide) _)
        · exact (c 145 _ (by decide) (by decide) (by decide)).trans (p1.c 145 (by decide) (by decide) _)
        · exact (c 152 _ (by decide) (by decide) (by decide)).trans (p1.c 152 (by decide) (by decide) _)
        · exact (c 156 _ (by decide) (by decide) (by decide)).trans (p10 k hk)
        · show 0 ≤ s9.1 156 (20 * b + k) ∧ s9.1 156 (20 * b + k) ≤ 5
          rw [c 156 _ (by decide) (by decide) (by decide)]; exact p11 k (by omega) k1
        · rw [g59 i hi]; exact p1.c 159 (by decide) (by decide) i
        · rw [g60 i hi]; exact p1.c 160 (by decide) (by decide) i
      have eso : bso s9 b n = so := (c46 _).trans p6
      have ebi : bbi s9 b n = bi := (c 153 _ (by decide) (by decide) (by decide)).trans p8
      have edO : bdO s9 b n = nD := ((c 149 _ (by decide) (by decide) (by decide)).trans p7).trans h43
      have ekA : bkA s9 b n = s'.1 154 (40 * b + n) := c 154 _ (by decide) (by decide) (by decide)
      have ekL : bkL s9 b n = s'.1 155 (40 * b + n) := c 155 _ (by decide) (by decide) (by decide)
      have ekC : bkC s9 b = bkC s' b := funext fun k => c 156 _ (by decide) (by decide) (by decide)
      refine psh.go h hn hm h0 htop (by rw [eso]; exact hso) (fun h2 => ?_) (fun h2 => by rw [eso] at h2; rw [ebi]; exact hno h2) edO (fun h16 => ?_)
      · rw [eso] at h2
        unfold NMC
        rw [ebi, edO]
        rcases hbi h2 (by omega) with ⟨i, ⟨i0, i1⟩, e, hk⟩ | hbi
        · have hi := rd.2 i i0 i1
          have hi1 := hi.1.1
          refine ⟨fun _ => ⟨⟨by omega, by omega, Or.inl ⟨i, ⟨i0, by omega⟩, ?_⟩⟩, ?_⟩, fun hg => by omega⟩
          · rw [(psh.2.2.2.2.2.1 i (by omega)).1]; exact e.symm
          · have e46 : bso s9 b bi = s.1 146 (40 * b + s.1 159 i) := by rw [e]; exact (psh.1 _ (by omega)).1
            rw [e46]
            refine hk.imp id fun ⟨h4, h1⟩ => ⟨⟨h4, ?_⟩, fun j j0 j1 hj => ?_⟩
            · rw [psh.2.2.1, (psh.2.1 _).1, e]
              have h6 := hi.2.2.2.2.2.1 (by omega)
              rw [h1, show (1 : Int) - 1 = 0 by omega] at h6
              unfold nxt at h6
              by_cases c2 : i + 1 < m
              · rw [if_pos c2] at h6
                have := (rd.2 (i + 1) (by omega) c2).1.1
                omega
              · rw [if_neg c2] at h6; omega
            · by_cases c2 : j = m
              · rw [c2, g59m] at hj; omega
              · rw [(psh.2.2.2.2.2.1 j c2).1] at hj
                rw [(psh.2.2.2.2.2.1 j c2).2]
                have := rd.inj (i := j) (j := i) j0 (by omega) i0 i1 (hj.trans e)
                rw [this]; omega
        · exact ⟨fun hl => by omega, fun _ => by omega⟩
      · rw [eso] at h16
        rw [ekA, ekL, ekC]
        exact p12 h16 (by omega)
    · rw [c 142 b (by decide) (by decide) (by decide)]; exact p5
    · rw [g59m, c46, p6]; exact (har h4).1 hv0
    · rw [g59m, c46, p6]; exact (har h4).2 hv1
  simp only [ar_F]
  (repeat' (with_reducible first | refine ⟨?_, ?_⟩ | intro _))
  all_goals first | omega | skip
  all_goals exact fin _ (by omega) (fun h4 => ⟨fun hh => by have := ar_r so; omega, fun hh => by omega⟩)
theorem c_X11_beginsPlace {s : ST} {b m n R nD : Int} {Q : ST → Int → Prop} (h : RP s b m n R nD (s.1 144 b)) (hb : 0 ≤ b ∧ b ≤ 1) (h29 : s.1 139 29 = b) (h32 : s.1 139 32 = m) (h42 : s.1 142 b = n) (h43 : s.1 143 b = nD) (hc : RDC s) (h0 : m = 0 → n = R) (htop : 0 < m → s.1 160 (m - 1) < ar (bso s b (s.1 159 (m - 1)))) (hQ : ∀ s' v, BPO s s' b m n R nD v → Q s' v) : C_X11_beginsPlace s Q := by
  obtain ⟨ra, rb, rc, rd, re⟩ := id h
  obtain ⟨a1, a2, a3, a4, a5, a6, a7, a8, a9, a10⟩ := ra
  have hsr := sortHere_r s
  have bad : ∀ s' v, md [(139, 4), (139, 5)] [] s s' → s'.1 139 4 ≠ 0 → (v = 0 ∨ v = 1) → Q s' v := fun s' v m' h4 hv => hQ s' v ⟨RM.md m' (by decide), hc.keep m' (by decide) (by decide), by rw [m'.c 143 (by decide) (by decide)]; exact h43, hv, fun e => absurd e h4⟩
  have k32 : ∀ a, K_X11_beginsPlace_32 s a Q := fun a => s_X11_beginsPlace_32 fun _ _ => c_X11_misplaced fun s' m' h' => s_X11_beginsPlace_36 fun _ _ => ⟨fun e => absurd e h', fun _ => bad s' 0 m' h' (Or.inl rfl)⟩
  have k228 : ∀ s' so bi, PB0 s s' b n so bi → (0 ≤ so ∧ so ≤ 16) → (so ≠ 2 → bi = -1) → (so = 2 → s'.1 139 4 = 0 → (∃ i, (0 ≤ i ∧ i < m) ∧ bi = s.1 159 i ∧ (s.1 146 (40 * b + s.1 159 i) = 3 ∨ s.1 146 (40 * b + s.1 159 i) = 4 ∧ s.1 160 i = 1)) ∨ (100 ≤ bi ∧ bi < 100 + nD)) → n ≤ 39 → m ≤ 20 → K_X11_beginsPlace_228 s' so n (40 * b + n) Q := by
    intro s' so bi p hso hno hbi hn hm
    obtain ⟨p1, p2, p3, p4, p5, p6, p7, p8⟩ := id p
    have e44 := p1.c 144 (by decide) (by decide) b
    have e56 : ∀ z, s'.1 156 z = s.1 156 z := fun z => p1.c 156 (by decide) (by decide) z
    refine s_X11_beginsPlace_228 ?_
    (repeat' (with_reducible first | refine ⟨?_, ?_⟩ | intro _))
    · refine k_bp239 h hb h32 h43 h0 htop hn hm hso hno hbi ⟨p1.mono (by decide) (by decide), p2, p3, fun z hz => ?_, ⟨p5, p6, p7, p8⟩, by omega, fun k _ => e56 _, fun k k0 k1 => ?_, fun e => by omega⟩ hQ
      · obtain ⟨e1, e2, e3⟩ := p4 z hz
        exact ⟨e1, e2, e3, p1.c 154 (by decide) (by decide) z, p1.c 155 (by decide) (by decide) z⟩
      · rw [e56]; exact a10 k k0 (by omega)
    · have h16 : so = 16 := by omega
      refine c_X11_readKind (b := b) (by omega) hb (by rw [p1.f 139 29 (by decide) (by decide)]; exact h29) p3 (by omega) (fun k k0 k1 => by rw [e56]; exact a10 k k0 (by omega)) fun s2 rk => ?_
      obtain ⟨r1, r2, r3, r4, r5, r6, r7, r8⟩ := rk
      refine k_bp239 h hb h32 h43 h0 htop hn hm hso hno (fun e => by omega) ⟨(p1.mono (by decide) (by decide)).tr (r1.mono (by decide) (by decide)), p2.tr r2, r3, fun z hz => ?_, ⟨?_, ?_, ?_, ?_⟩, by omega, fun k hk => ?_, r7, fun _ h4 => r8 h4⟩ hQ
      · obtain ⟨e1, e2, e3⟩ := p4 z hz
        rw [r1.c 146 (by decide) (by decide), r1.c 149 (by decide) (by decide), r1.c 153 (by decide) (by decide), (r4 z hz).1, (r4 z hz).2, p1.c 154 (by decide) (by decide), p1.c 155 (by decide) (by decide)]
        exact ⟨e1, e2, e3, rfl, rfl⟩
      · rw [r1.c 142 (by decide) (by decide)]; exact p5
      · rw [r1.c 146 (by decide) (by decide)]; exact p6
      · rw [r1.c 149 (by decide) (by decide)]; exact p7
      · rw [r1.c 153 (by decide) (by decide)]; exact p8
      · rw [r6 k (by omega)]; exact e56 _
  have k200 : ∀ s' so bi, PB0 s s' b n so bi → (0 ≤ so ∧ so ≤ 16) → (so ≠ 2 → bi = -1) → (so = 2 → s'.1 139 4 = 0 → (∃ i, (0 ≤ i ∧ i < m) ∧ bi = s.1 159 i ∧ (s.1 146 (40 * b + s.1 159 i) = 3 ∨ s.1 146 (40 * b + s.1 159 i) = 4 ∧ s.1 160 i = 1)) ∨ (100 ≤ bi ∧ bi < 100 + nD)) → n ≤ 39 → m ≤ 20 → K_X11_beginsPlace_200 s' so n (40 * b + n) Q := by
    intro s' so bi p hso hno hbi hn hm
    obtain ⟨p1, p2, p3, p4, p5, p6, p7, p8⟩ := id p
    refine s_X11_beginsPlace_200 fun _ _ _ _ => ⟨fun h4 => ?_, fun h4 => ?_⟩
    · refine c_X11_goOn p3 fun s2 m2 c2 => ?_
      have q2 : PB0 s s2 b n so bi := p.md (m2.mono (by decide) (by decide)) (RM.md m2 (by decide)) c2
      have f4 := m2.f 139 4 (by decide) (by decide)
      have k228' := k228 s2 so bi q2 hso hno (fun e h => hbi e h4) hn hm
      have k223 : (so = 3 ∨ so = 4) → K_X11_beginsPlace_223 s2 so n (40 * b + n) Q := fun h34 => s_X11_beginsPlace_223 fun _ _ _ _ => c_X11_readWord (b := b) (by omega) hb c2 fun s3 m3 r3 c3 _ => k228 s3 so bi (q2.md m3 r3 c3) hso hno (fun e => by omega) hn hm
      (repeat' (with_reducible first | refine ⟨?_, ?_⟩ | intro _))
      all_goals first | exact k223 (by omega) | exact k228'
    · exact hQ s' 0 ⟨p2, p3, by rw [p1.c 143 (by decide) (by decide)]; exact h43, Or.inl rfl, fun e => absurd e h4⟩
  have fin176 : ∀ s1 a t2, (md mF [142, 146, 147, 148, 149, 158] s s1 ∧ RM b s s1 ∧ RDC s1 ∧ (∀ z, z ≠ 40 * b + n → s1.1 146 z = s.1 146 z ∧ s1.1 149 z = s.1 149 z) ∧ s1.1 142 b = n + 1 ∧ s1.1 146 (40 * b + n) = a ∧ s1.1 149 (40 * b + n) = s.1 143 b) → (0 ≤ a ∧ a ≤ 16) → (a ≠ 2 → t2 = -1) → (a = 2 → t2 = -1 ∨ (∃ i, (0 ≤ i ∧ i < m) ∧ t2 = s.1 159 i ∧ (s.1 146 (40 * b + s.1 159 i) = 3 ∨ s.1 146 (40 * b + s.1 159 i) = 4 ∧ s.1 160 i = 1)) ∨ (100 ≤ t2 ∧ t2 < 100 + nD)) → n ≤ 39 → m ≤ 20 → K_X11_beginsPlace_176 s1 a n (40 * b + n) (40 * b + n) t2 Q := by
    intro s1 a t2 ⟨p1, p2, p3, p4, p5, p6, p7⟩ ha hno hbi hn hm
    have e53 : (ui s1 153 (40 * b + n) t2).1 153 (40 * b + n) = t2 := ui_same
    have pb : PB0 s (ui s1 153 (40 * b + n) t2) b n a t2 := by
      have mm : md [] [153] s1 (ui s1 153 (40 * b + n) t2) := (by repeat' (first | exact md.rf | assumption | refine md.ui ?_ ?_ | refine md.uj ?_ ?_ | exact Or.inr (by decide) | exact Or.inl (by decide)))
      refine ⟨(p1.mono (by decide) (by decide)).tr (mm.mono (by decide) (by decide)), p2.ui (by unfold RW; omega), p3.keep mm (by decide) (by decide), fun z hz => ⟨?_, ?_, ?_⟩, ?_, ?_, ?_, e53⟩
      · rw [ui_cell (by decide)]; exact (p4 z hz).1
      · rw [ui_cell (by decide)]; exact (p4 z hz).2
      · rw [ui_ne hz]; exact p1.c 153 (by decide) (by decide) z
      · rw [ui_cell (by decide)]; exact p5
      · rw [ui_cell (by decide)]; exact p6
      · rw [ui_cell (by decide)]; exact p7
    refine s_X11_beginsPlace_176 ?_
    rw [e53]
    generalize ui s1 153 (40 * b + n) t2 = s2 at *
    have opi : ∀ i, 0 ≤ i → i < m → 0 ≤ s.1 159 i := fun i i0 i1 => by have := (rd.2 i i0 i1).1.1; omega
    (repeat' (with_reducible first | refine ⟨?_, ?_⟩ | intro _))
    all_goals first | omega | skip
    · exact k200 s2 a t2 pb ha hno (fun h => by omega) hn hm
    · exact k200 s2 a t2 pb ha hno (fun h _ => (hbi h).resolve_left (by omega)) hn hm
    · refine c_X11_fails (by decide) fun s3 m3 h3 => k200 s3 a t2 (pb.md (m3.mono (by decide) (by decide)) (RM.md m3 (by decide)) (pb.2.2.1.keep m3 (by decide) (by decide))) ha hno (fun _ h => absurd h h3) hn hm
  have k147 : ∀ s1 a t2, (md mF [142, 146, 147, 148, 149, 158] s s1 ∧ RM b s s1 ∧ RDC s1 ∧ (∀ z, z ≠ 40 * b + n → s1.1 146 z = s.1 146 z ∧ s1.1 149 z = s.1 149 z) ∧ s1.1 142 b = n + 1 ∧ s1.1 146 (40 * b + n) = a ∧ s1.1 149 (40 * b + n) = s.1 143 b) → (0 ≤ a ∧ a ≤ 16) → n ≤ 39 → m ≤ 20 → K_X11_beginsPlace_147 s1 a n (40 * b + n) (40 * b + n) t2 Q := by
    intro s1 a t2 ⟨p1, p2, p3, p4, p5, p6, p7⟩ ha hn hm
    have mm : md [] [147, 158] s1 (uj (ui s1 147 (40 * b + n) t2) 158 (40 * b + n) (s1.2 139 10)) := (by repeat' (first | exact md.rf | assumption | refine md.ui ?_ ?_ | refine md.uj ?_ ?_ | exact Or.inr (by decide) | exact Or.inl (by decide)))
    have rr : RM b s1 (uj (ui s1 147 (40 * b + n) t2) 158 (40 * b + n) (s1.2 139 10)) := (RM.rf.ui (by unfold RW; omega)).uj (by unfold RW; omega)
    refine s_X11_beginsPlace_147 ?_
    generalize uj (ui s1 147 (40 * b + n) t2) 158 (40 * b + n) (s1.2 139 10) = s2 at *
    have pa : md mF [142, 146, 147, 148, 149, 158] s s2 ∧ RM b s s2 ∧ RDC s2 ∧ (∀ z, z ≠ 40 * b + n → s2.1 146 z = s.1 146 z ∧ s2.1 149 z = s.1 149 z) ∧ s2.1 142 b = n + 1 ∧ s2.1 146 (40 * b + n) = a ∧ s2.1 149 (40 * b + n) = s.1 143 b := by
      refine ⟨p1.tr (mm.mono (by decide) (by decide)), p2.tr rr, p3.keep mm (by decide) (by decide), fun z hz => ?_, ?_, ?_, ?_⟩
      · rw [mm.c 146 (by decide) (by decide), mm.c 149 (by decide) (by decide)]; exact p4 z hz
      · rw [mm.c 142 (by decide) (by decide)]; exact p5
      · rw [mm.c 146 (by decide) (by decide)]; exact p6
      · rw [mm.c 149 (by decide) (by decide)]; exact p7
    (repeat' (with_reducible first | refine ⟨?_, ?_⟩ | intro _))
    all_goals first | omega | skip
    · exact fin176 s2 a (-1) pa ha (fun _ => rfl) (fun h => by omega) hn hm
    · have q1 := pa.1
      have e59 : ∀ i, s2.1 159 i = s.1 159 i := fun i => q1.c 159 (by decide) (by decide) i
      have e60 : ∀ i, s2.1 160 i = s.1 160 i := fun i => q1.c 160 (by decide) (by decide) i
      refine c_X11_meant (b := b) (m := m) (nD := nD) (by omega) a2 (fun i i0 i1 => ?_) hb (by rw [q1.f 139 29 (by decide) (by decide)]; exact h29) (by rw [q1.f 139 32 (by decide) (by decide)]; exact h32) (by rw [q1.c 143 (by decide) (by decide)]; exact h43) fun v hv => ?_
      · rw [e59]
        have := (rd.2 i i0 i1).1.1
        omega
      · refine fin176 s2 a v pa ha (fun h => by omega) (fun _ => ?_) hn hm
        refine hv.imp id (Or.imp (fun ⟨i, i01, e, hk⟩ => ⟨i, i01, ?_, ?_⟩) id)
        · rw [← e59]; exact e
        · have hi := (rd.2 i i01.1 i01.2).1.1
          rw [e59, e60, (pa.2.2.2.1 _ (by omega)).1] at hk
          exact hk
  have k36 : 0 ≤ F_X11_sortHere s → n ≠ 40 → m ≤ 20 → K_X11_beginsPlace_36 s (F_X11_sortHere s) Q := by
    intro ha hn hm
    generalize F_X11_sortHere s = a at *
    have pa : md mF [142, 146, 147, 148, 149, 158] s (ui (ui (ui (ui s 142 b (n + 1)) 146 (40 * b + n) a) 148 (40 * b + n) (s.1 139 6)) 149 (40 * b + n) (s.1 143 b)) ∧ RM b s (ui (ui (ui (ui s 142 b (n + 1)) 146 (40 * b + n) a) 148 (40 * b + n) (s.1 139 6)) 149 (40 * b + n) (s.1 143 b)) ∧ RDC (ui (ui (ui (ui s 142 b (n + 1)) 146 (40 * b + n) a) 148 (40 * b + n) (s.1 139 6)) 149 (40 * b + n) (s.1 143 b)) ∧ (∀ z, z ≠ 40 * b + n → (ui (ui (ui (ui s 142 b (n + 1)) 146 (40 * b + n) a) 148 (40 * b + n) (s.1 139 6)) 149 (40 * b + n) (s.1 143 b)).1 146 z = s.1 146 z ∧ (ui (ui (ui (ui s 142 b (n + 1)) 146 (40 * b + n) a) 148 (40 * b + n) (s.1 139 6)) 149 (40 * b + n) (s.1 143 b)).1 149 z = s.1 149 z) ∧ (ui (ui (ui (ui s 142 b (n + 1)) 146 (40 * b + n) a) 148 (40 * b + n) (s.1 139 6)) 149 (40 * b + n) (s.1 143 b)).1 142 b = n + 1 ∧ (ui (ui (ui (ui s 142 b (n + 1)) 146 (40 * b + n) a) 148 (40 * b + n) (s.1 139 6)) 149 (40 * b + n) (s.1 143 b)).1 146 (40 * b + n) = a ∧ (ui (ui (ui (ui s 142 b (n + 1)) 146 (40 * b + n) a) 148 (40 * b + n) (s.1 139 6)) 149 (40 * b + n) (s.1 143 b)).1 149 (40 * b + n) = s.1 143 b := by
      have mm : md [] [142, 146, 148, 149] s (ui (ui (ui (ui s 142 b (n + 1)) 146 (40 * b + n) a) 148 (40 * b + n) (s.1 139 6)) 149 (40 * b + n) (s.1 143 b)) := (by repeat' (first | exact md.rf | assumption | refine md.ui ?_ ?_ | refine md.uj ?_ ?_ | exact Or.inr (by decide) | exact Or.inl (by decide)))
      refine ⟨mm.mono (by decide) (by decide), (((RM.rf.ui (by unfold RW; omega)).ui (by unfold RW; omega)).ui (by unfold RW; omega)).ui (by unfold RW; omega), hc.keep mm (by decide) (by decide), fun z hz => ⟨?_, ?_⟩, ?_, ?_, ui_same⟩
      · rw [ui_cell (by decide), ui_cell (by decide), ui_ne hz, ui_cell (by decide)]
      · rw [ui_ne hz, ui_cell (by decide), ui_cell (by decide), ui_cell (by decide)]
      · rw [ui_cell (by decide), ui_cell (by decide), ui_cell (by decide), ui_same]
      · rw [ui_cell (by decide), ui_cell (by decide), ui_same]
    refine s_X11_beginsPlace_36 ?_
    rw [h29, h42]
    generalize ui (ui (ui (ui s 142 b (n + 1)) 146 (40 * b + n) a) 148 (40 * b + n) (s.1 139 6)) 149 (40 * b + n) (s.1 143 b) = s1 at *
    (repeat' (with_reducible first | refine ⟨?_, ?_⟩ | intro _))
    all_goals first | omega | exact bad s 0 md.rf (by assumption) (Or.inl rfl) | exact k147 s1 a _ pa (by omega) (by omega) hm | skip
    all_goals exact s_X11_beginsPlace_146 fun _ _ _ _ _ => k147 s1 a _ pa (by omega) (by omega) hm
  refine s_X11_beginsPlace ?_
  rw [h29, h42, h32]
  (repeat' (with_reducible first | refine ⟨?_, ?_⟩ | intro _))
  all_goals first | omega | exact k32 _ | exact k36 (by omega) (by omega) (by omega)
