/-! READING ALIKE: program, side by side -/
def IN5 (x m : ST) : Prop := IN2 x m ∧ x.1 1 = m.1 140 ∧ x.1 46 0 = m.1 139 4 ∧ x.1 46 1 = m.1 139 5 ∧ W47 x
section ALP
variable {x m : ST}
theorem KZ.in5 {x1 xe m2 : ST} (h : IN5 x m) (e2 : x1.1 0 2 = x.1 0 2) (e01 : x1.1 0 1 = 0) (eT : x1.1 1 = x.1 1) (k : KZ x1 xe) (im : IM m2) (i93 : m2.1 139 93 = m.1 139 93) (i2 : m2.1 139 2 = 0) (i140 : m2.1 140 = m.1 140) (f0 : xe.1 46 0 = m2.1 139 4) (f1 : xe.1 46 1 = m2.1 139 5) : IN5 xe m2 := by
  obtain ⟨⟨h1, h2, h3, h4⟩, h5, _⟩ := h
  refine ⟨⟨k.1, im, ?_, ?_⟩, ?_, f0, f1, k.2.2.2.2⟩
  · rw [k.2.1, e01, i2]
  · rw [k.2.2.1, e2, h4, i93]
  · rw [k.2.2.2.1, eT, h5, i140]
theorem al_program (h : IN5 x m) {G : ST → Int → ST → Int → Prop} (hG : ∀ x1 m2 v, IN5 x1 m2 → G x1 v m2 v) : C_X10_program x (fun x1 v1 => C_X11_program m (fun m2 v2 => G x1 v1 m2 v2)) := by
  obtain ⟨⟨hx, hm, ht, htm⟩, h140, hf0, hf1, w47⟩ := id h
  refine s_X10_program fun _ => ?_
  have mm : md [(0, 1)] [1] x (ui x 0 1 0) := (by repeat' (first | exact md.rf | assumption | refine md.ui ?_ ?_ | refine md.uj ?_ ?_ | exact Or.inr (by decide) | exact Or.inl (by decide)))
  have e1 : (ui x 0 1 0).1 0 1 = 0 := ui_same
  have e2 : (ui x 0 1 0).1 0 2 = x.1 0 2 := ui_ne (by decide)
  have eT : (ui x 0 1 0).1 1 = x.1 1 := funext fun z => ui_cell (by decide)
  have h0 := hx.tape mm (by omega)
  have w0 : W47 (ui x 0 1 0) := w47
  have htr := hx.2.2.2.1
  have b01 := hm.1.1
  generalize ui x 0 1 0 = x1 at *
  refine m_read h0.1 w0 htr (fun x' n nD dx ad => fun _ => ⟨fun _ => ?_, fun e => absurd e (by decide)⟩) (fun x' kz px he ad => fun _ => ⟨fun e => absurd rfl e, fun _ => ?_⟩)
  · obtain ⟨⟨kz, px, f0⟩, ⟨c1, c2⟩, ⟨c3, c4⟩, c5⟩ := id dx
    have ref := fun QP hm' => ad m QP b01 ht.symm (by rw [eT]; exact h140.symm) hm'
    have good : (∀ m', FRG m m' → m'.1 139 3 = x.1 0 1 → DFM x' m' (1 - m.1 139 28) n nD → sm (fun d => m'.1 151 (40 * (1 - m.1 139 28) + m'.1 145 (8 * (1 - m.1 139 28) + d))) 0 (m'.1 143 (1 - m.1 139 28)).toNat ≤ 400) → ∀ xe, KZ x1 xe → xe.1 46 = x'.1 46 → C_X11_program m (fun m2 v2 => G xe n m2 v2) := by
      intro hle xe ke e46
      refine ref _ fun m' fr e3 D => ?_
      have hrb : 0 ≤ 1 - m.1 139 28 ∧ 1 - m.1 139 28 ≤ 1 := by omega
      have hs := hle m' fr e3 D
      obtain ⟨d1, ⟨d2, d3, d4, d5⟩, d6, W, d8⟩ := id D
      refine r_99o d1.2.2.2.1 d3 hrb W (fun hb => by omega) fun _ => ?_
      refine r_148 3 _ 0 (by omega) (by omega) (by rw [ui_same]; exact hrb) (fun i i0 i1 => by omega) fun m2 mm2 tr' q92 q49 q62 q63 hx3 => ?_
      have e42 : (ui m' 139 28 (1 - m.1 139 28)).1 142 ((ui m' 139 28 (1 - m.1 139 28)).1 139 28) = n := by rw [ui_same, ui_cell (by decide)]; exact d4
      rw [e42]
      obtain ⟨i1, i2, i3, i4, i5, i6⟩ := im_ok hm fr ⟨W, hs⟩ mm2 tr' q92 q49 q63 hx3
      refine hG xe m2 n (KZ.in5 h e2 e1 eT ke i1 i2 i3 i4 ?_ ?_)
      · rw [e46, f0, i5]; exact d1.2.2.2.1.symm
      · rw [e46, i6]; exact d1.1.2.2.2.symm
    have many : (∀ m', FRG m m' → m'.1 139 3 = x.1 0 1 → DFM x' m' (1 - m.1 139 28) n nD → 400 < sm (fun d => m'.1 151 (40 * (1 - m.1 139 28) + m'.1 145 (8 * (1 - m.1 139 28) + d))) 0 (m'.1 143 (1 - m.1 139 28)).toNat) → ∀ xe, KZ x1 xe → xe.1 46 0 = 5 → xe.1 46 1 = x.1 0 1 → C_X11_program m (fun m2 v2 => G xe (-1) m2 v2) := by
      intro hgt xe ke q0 q1
      refine ref _ fun m' fr e3 D => ?_
      have hrb : 0 ≤ 1 - m.1 139 28 ∧ 1 - m.1 139 28 ≤ 1 := by omega
      have hs := hgt m' fr e3 D
      obtain ⟨d1, ⟨d2, d3, d4, d5⟩, d6, W, d8⟩ := id D
      refine r_99o d1.2.2.2.1 d3 hrb W (fun _ => ?_) (fun hb => by omega)
      have mE : md [(139, 4), (139, 5)] [] m' (ui (ui m' 139 4 5) 139 5 (m'.1 139 3)) := (by repeat' (first | exact md.rf | assumption | refine md.ui ?_ ?_ | refine md.uj ?_ ?_ | exact Or.inr (by decide) | exact Or.inl (by decide)))
      have fr2 : FRG m (ui (ui m' 139 4 5) 139 5 (m'.1 139 3)) := ⟨fr.1.tr (mE.mono (by decide) (by decide)), fun z z0 z1 hz => (fr.2.1 z z0 z1 hz).tr (WX.md mE (by decide) (by decide)), (mE.f 139 2 (by decide) (by decide)).trans fr.2.2.1, (mE.f 139 29 (by decide) (by decide)).trans fr.2.2.2⟩
      obtain ⟨i1, i2, i3, i4⟩ := im_err hm fr2
      refine hG xe _ (-1) (KZ.in5 h e2 e1 eT ke i1 i2 i3 i4 ?_ ?_)
      · rw [q0, ui_ne (by decide), ui_same]
      · rw [q1, ui_same, e3]
    have k52 : (∀ xe, KZ x1 xe → xe.1 46 = x'.1 46 → C_X11_program m (fun m2 v2 => G xe n m2 v2)) → ∀ (j : Nat) (s : ST) (a : Int), 3 - a ≤ (j : Int) → 0 ≤ a → KZ x1 s → s.1 46 = x'.1 46 → s.1 18 1 = n → K_X10_program_52 s a (fun x1 v1 => C_X11_program m (fun m2 v2 => G x1 v1 m2 v2)) := by
      intro fin j
      have go : ∀ s, KZ x1 s → s.1 46 = x'.1 46 → s.1 18 1 = n → C_X10_goOnWith 18 s (fun x1 v1 => C_X11_program m (fun m2 v2 => G x1 v1 m2 v2)) := fun s ks k46 k18 => e_goOnWith ks.1 fun s' k' => by
        rw [k18]; exact fin s' (ks.kx k') (k'.2.2.2.2.1.trans k46)
      induction j with
      | zero =>
        intro s a hj ha ks k46 k18
        refine s_X10_program_52 ?_
        (repeat' (with_reducible first | refine ⟨?_, ?_⟩ | intro _))
        all_goals first | omega | exact go s ks k46 k18
      | succ j ih =>
        intro s a hj ha ks k46 k18
        have kp : KX s (ui s 93 a 0) := KX_put (.rf ks.1) (by omega) (fun e => by omega) (fun e => by omega)
        refine s_X10_program_52 ?_
        (repeat' (with_reducible first | refine ⟨?_, ?_⟩ | intro _))
        all_goals first | omega | exact go s ks k46 k18 | exact ih _ _ (by omega) (by omega) (ks.kx kp) (kp.2.2.2.2.1.trans k46) ((ui_cell (by decide)).trans k18)
    have refu : ∀ s2, LF 59 x' s2 → (∀ xe, KZ x1 xe → xe.1 46 0 = 5 → xe.1 46 1 = x.1 0 1 → C_X11_program m (fun m2 v2 => G xe (-1) m2 v2)) → C_X7_refuseAskings s2 (x.1 0 1) (fun s3 => C_X11_program m (fun m2 v2 => G s3 (-1) m2 v2)) := by
      intro s2 lf fin
      refine s_X7_refuseAskings ?_
      (repeat' (with_reducible first | refine ⟨?_, ?_⟩ | intro _))
      have kz2 : KZ x1 (ui (ui s2 46 0 5) 46 1 (x.1 0 1)) := (kz.kx lf.1).m46 (fs := [(46, 0), (46, 1)]) (by repeat' (first | exact md.rf | assumption | refine md.ui ?_ ?_ | refine md.uj ?_ ?_ | exact Or.inr (by decide) | exact Or.inl (by decide))) (by decide)
      exact fin _ kz2 (by rw [ui_ne (by decide), ui_same]) ui_same
    by_cases hE : ∃ m' b, DFM x' m' b n nD
    · obtain ⟨m', b, D⟩ := hE
      obtain ⟨tr0, hrt⟩ := TRE_of D c1 c3 c4 c2
      refine e_list kz.1 tr0 c3 c4 hrt fun s2 lf hd => ?_
      have sumE : ∀ m', DFM x' m' (1 - m.1 139 28) n nD → TRE x' n (bas m' (1 - m.1 139 28)) ∧ sm (fun d => m'.1 151 (40 * (1 - m.1 139 28) + m'.1 145 (8 * (1 - m.1 139 28) + d))) 0 (m'.1 143 (1 - m.1 139 28)).toNat = TOTx x' (bas m' (1 - m.1 139 28)) nD := fun m' D => by
        refine ⟨(TRE_of D c1 c3 c4 c2).1, ?_⟩
        rw [D.2.1.2.2.2, show ((nD : Int)).toNat = nD by omega, TOT_sm D.2.2.2.2.2.1 nD (Nat.le_refl _)]
      have e46 : s2.1 46 = x'.1 46 := lf.1.2.2.2.2.1
      have e181 : s2.1 18 1 = n := (lf.2 18 1 (Or.inl (by decide))).1.trans c1
      rcases hd with ⟨g1, g2⟩ | ⟨g1, g2⟩
      · refine ⟨fun _ => k52 (good fun m' _ _ D => ?_) 3 s2 0 (by omega) (by omega) (kz.kx lf.1) e46 e181, fun h => absurd g1 h⟩
        obtain ⟨q1, q2⟩ := sumE m' D
        rw [q2]; exact g2 _ q1
      · refine ⟨fun h => absurd h g1, fun _ => refu s2 lf (many fun m' _ _ D => ?_)⟩
        obtain ⟨q1, q2⟩ := sumE m' D
        rw [q2]; have := g2 _ q1; omega
    · refine f_X0_list (Or.inr rfl) kz.1 fun s2 lf => ?_
      have e46 : s2.1 46 = x'.1 46 := lf.1.2.2.2.2.1
      have e181 : s2.1 18 1 = n := (lf.2 18 1 (Or.inl (by decide))).1.trans c1
      exact ⟨fun _ => k52 (good fun m' _ _ D => absurd ⟨m', _, D⟩ hE) 3 s2 0 (by omega) (by omega) (kz.kx lf.1) e46 e181, fun _ => refu s2 lf (many fun m' _ _ D => absurd ⟨m', _, D⟩ hE)⟩
  · refine ad m _ b01 ht.symm (by rw [eT]; exact h140.symm) fun m' fr er => ?_
    obtain ⟨i1, i2, i3, i4⟩ := im_err hm fr
    refine r_99e (fun hh => er.1 (er.2.1.symm.trans hh)) (hG x' m' (-1) (KZ.in5 h e2 e1 eT kz i1 i2 i3 i4 er.2.1.symm er.2.2.symm))
end ALP
