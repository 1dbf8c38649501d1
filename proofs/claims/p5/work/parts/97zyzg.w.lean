/-! READING ALIKE: a text from its start; both ends in order -/
def FRG (m m' : ST) : Prop := md pF0 pC0 m m' ∧ (∀ x, 0 ≤ x → x < 6 → x ≠ 1 - m.1 139 28 → WX m x m' x) ∧ m'.1 139 2 = 0 ∧ m'.1 139 29 = 1 - m.1 139 28
section PROG
variable {x1 : ST}
theorem m_read {p : Int} {Q : ST → Int → Prop} (ix : IX x1) (w47 : W47 x1) (hp : 0 ≤ p ∧ p ≤ 1600)
    (hok : ∀ x' n nD, DFX x1 x' n nD → (∀ m QP, (0 ≤ m.1 139 28 ∧ m.1 139 28 ≤ 1) → m.1 139 2 = p → m.1 140 = x1.1 1 → (∀ m', FRG m m' → m'.1 139 3 = p → DFM x' m' (1 - m.1 139 28) n nD → K_X11_program_99 m' QP) → C_X11_program m QP) → Q x' 1)
    (herr : ∀ x', KZ x1 x' → PT x' → x'.1 46 0 ≠ 0 → (∀ m QP, (0 ≤ m.1 139 28 ∧ m.1 139 28 ≤ 1) → m.1 139 2 = p → m.1 140 = x1.1 1 → (∀ m', FRG m m' → ERR x' m' → K_X11_program_99 m' QP) → C_X11_program m QP) → Q x' 0) : C_X7_readText x1 p Q := by
  have f18 : isT 18 := Or.inr (Or.inl rfl)
  have kz1 : KZ x1 x1 := ⟨ix, rfl, rfl, rfl, w47⟩
  refine s_X7_readText ?_
  (repeat' (with_reducible first | refine ⟨?_, ?_⟩ | intro _))
  refine s_X9_clear fun _ _ => ?_
  have kA : KZ x1 (ui x1 46 3 p) := kz1.m46 (fs := [(46, 3)]) (by repeat' (first | exact md.rf | assumption | refine md.ui ?_ ?_ | refine md.uj ?_ ?_ | exact Or.inr (by decide) | exact Or.inl (by decide))) (by decide)
  have kB : KZ x1 (ui (ui (ui (ui x1 46 3 p) 18 0 0) 18 1 0) 18 2 0) := kA.kx ((((KX.rf kA.1).ut f18).ut f18).ut f18)
  have kC : KZ x1 (ui (ui (ui (ui (ui (ui (ui x1 46 3 p) 18 0 0) 18 1 0) 18 2 0) 46 0 0) 46 1 (-1)) 46 4 0) := kB.m46 (fs := [(46, 0), (46, 1), (46, 4)]) (by repeat' (first | exact md.rf | assumption | refine md.ui ?_ ?_ | refine md.uj ?_ ?_ | exact Or.inr (by decide) | exact Or.inl (by decide))) (by decide)
  have e4 : (ui (ui (ui (ui (ui (ui (ui x1 46 3 p) 18 0 0) 18 1 0) 18 2 0) 46 0 0) 46 1 (-1)) 46 4 0).1 46 4 = 0 := ui_same
  have e0 : (ui (ui (ui (ui (ui (ui (ui x1 46 3 p) 18 0 0) 18 1 0) 18 2 0) 46 0 0) 46 1 (-1)) 46 4 0).1 46 0 = 0 := by rw [ui_ne (by decide), ui_ne (by decide), ui_same]
  have e1 : (ui (ui (ui (ui (ui (ui (ui x1 46 3 p) 18 0 0) 18 1 0) 18 2 0) 46 0 0) 46 1 (-1)) 46 4 0).1 46 1 = -1 := by rw [ui_ne (by decide), ui_same]
  have e3 : (ui (ui (ui (ui (ui (ui (ui x1 46 3 p) 18 0 0) 18 1 0) 18 2 0) 46 0 0) 46 1 (-1)) 46 4 0).1 46 3 = p := by rw [ui_ne (by decide), ui_ne (by decide), ui_ne (by decide), ui_cell (by decide), ui_cell (by decide), ui_cell (by decide), ui_same]
  have eT : (ui (ui (ui (ui (ui (ui (ui x1 46 3 p) 18 0 0) 18 1 0) 18 2 0) 46 0 0) 46 1 (-1)) 46 4 0).1 1 = x1.1 1 := kC.2.2.2.1
  have d0 : (ui (ui (ui (ui (ui (ui (ui x1 46 3 p) 18 0 0) 18 1 0) 18 2 0) 46 0 0) 46 1 (-1)) 46 4 0).1 18 0 = 0 := by rw [ui_cell (by decide), ui_cell (by decide), ui_cell (by decide), ui_ne (by decide), ui_ne (by decide), ui_same]
  have d1 : (ui (ui (ui (ui (ui (ui (ui x1 46 3 p) 18 0 0) 18 1 0) 18 2 0) 46 0 0) 46 1 (-1)) 46 4 0).1 18 1 = 0 := by rw [ui_cell (by decide), ui_cell (by decide), ui_cell (by decide), ui_ne (by decide), ui_same]
  have d2 : (ui (ui (ui (ui (ui (ui (ui x1 46 3 p) 18 0 0) 18 1 0) 18 2 0) 46 0 0) 46 1 (-1)) 46 4 0).1 18 2 = 0 := by rw [ui_cell (by decide), ui_cell (by decide), ui_cell (by decide), ui_same]
  generalize ui (ui (ui (ui (ui (ui (ui x1 46 3 p) 18 0 0) 18 1 0) 18 2 0) 46 0 0) 46 1 (-1)) 46 4 0 = xs at *
  refine m_token kC ⟨by omega, by omega⟩ fun x0 mx kz px sim => ?_
  have e46 := md46 mx (by decide)
  have f00 : x0.1 46 0 = 0 := (mx.f 46 0 (by decide) (by decide)).trans e0
  have g0 : x0.1 18 0 = 0 := (e46 18 (by decide) 0).1.trans d0
  have g1 : x0.1 18 1 = 0 := (e46 18 (by decide) 1).1.trans d1
  have g2 : x0.1 18 2 = 0 := (e46 18 (by decide) 2).1.trans d2
  have dx : DFX x1 x0 0 0 := ⟨⟨kz, px, f00⟩, ⟨g1, by omega⟩, ⟨g0, by omega⟩, by omega⟩
  have ref : ∀ m QP, (0 ≤ m.1 139 28 ∧ m.1 139 28 ≤ 1) → m.1 139 2 = p → m.1 140 = x1.1 1 → (∀ m0, (∀ m', RM (1 - m.1 139 28) m0 m' → FRG m m' ∧ m'.1 139 3 = p) → DFM x0 m0 (1 - m.1 139 28) 0 0 → K_X11_program_78 m0 QP) → C_X11_program m QP := by
    intro m QP hb h2 h140 hm
    have hrb : 0 ≤ 1 - m.1 139 28 ∧ 1 - m.1 139 28 ≤ 1 := by omega
    refine r_start hb (by omega) fun s1 s2 m1 wx f2 f29 rm q3 q4 q5 q7 q42 q43 q44 qB => ?_
    have tx : TXR xs s2 := by
      refine ⟨by omega, by omega, fun i i0 i1 => ?_, by omega⟩
      rw [qB i i0 (by omega), iand_i8, h140, eT]
    refine sim s2 _ tx (by omega) (by omega) fun m0 mm rd tx0 tk0 => ?_
    refine hm m0 (fun m' rm' => ?_) ?_
    · have rt : RM (1 - m.1 139 28) s1 m' := (rm.tr (RM.md mm (by decide))).tr rm'
      refine ⟨⟨m1.tr ((RM_toMd rt).mono (by decide) (by decide)), fun x x0 x1 hx => (wx x x0 x1 hx).tr (rt.wx hrb (by omega) hx), ?_, ?_⟩, ?_⟩
      · rw [(rt 139 2 (by unfold RW; omega)).1]; exact f2
      · rw [(rt 139 29 (by unfold RW; omega)).1]; exact f29
      · rw [(rm' 139 3 (by unfold RW; omega)).1, mm.f 139 3 (by decide) (by decide)]; omega
    · have x42 : m0.1 142 (1 - m.1 139 28) = 0 := by rw [mm.c 142 (by decide) (by decide)]; exact q42
      have x43 : m0.1 143 (1 - m.1 139 28) = 0 := by rw [mm.c 143 (by decide) (by decide)]; exact q43
      have x44 : m0.1 144 (1 - m.1 139 28) = 0 := by rw [mm.c 144 (by decide) (by decide)]; exact q44
      have x29 : m0.1 139 29 = 1 - m.1 139 28 := by
        rw [mm.f 139 29 (by decide) (by decide), (rm 139 29 (by unfold RW; omega)).1]; exact f29
      exact ⟨⟨tx0, rd, tk0, (mm.f 139 4 (by decide) (by decide)).trans q4, f00⟩, ⟨hrb, x29, x42, x43⟩, by omega, WF0 (by omega) x42 x43 x44, fun p p0 p1 => by omega, fun d d0 d1 => by omega, fun p j p0 p1 => by omega⟩
  exact m_text (s0 := x1) (x0 := x0) (fun x' n' nD' dx' ad => hok x' n' nD' dx' fun m QP hb h2 h140 hm => ref m QP hb h2 h140 fun m0 hf D => ad m0 QP _ D fun m' rm B => hm m' (hf m' rm).1 (hf m' rm).2 B) (fun x' kz' px' he ad => herr x' kz' px' he fun m QP hb h2 h140 hm => ref m QP hb h2 h140 fun m0 hf D => ad m0 QP _ D fun m' rm er => hm m' (hf m' rm).1 er) 9 x0 0 0 (by omega) dx fun m0 QP b D hm => hm m0 .rf D
theorem im_err {m m' : ST} (h : IM m) (f : FRG m m') : IM m' ∧ m'.1 139 93 = m.1 139 93 ∧ m'.1 139 2 = 0 ∧ m'.1 140 = m.1 140 := by
  obtain ⟨bk, ld, tr, rg, hi, ⟨t1, t2⟩, bx⟩ := id h
  obtain ⟨mm, wx, e2, _⟩ := f
  have b01 := bk.1
  have e28 := mm.f 139 28 (by decide) (by decide)
  have wb := wx (m.1 139 28) (by omega) (by omega) (by omega)
  refine ⟨⟨⟨by omega, ?_⟩, ld.wq b01 bk.2.1 wb.1 mm (by decide) (by decide), ?_, ?_, fun h63 => ?_, ⟨by omega, ?_⟩, bx.wx (fun x x0 x1 => wx x (by omega) (by omega) (by omega)) (fun x => mm.c 202 (by decide) (by decide) x) (fun x => mm.c 203 (by decide) (by decide) x)⟩, mm.f 139 93 (by decide) (by decide), e2, funext (mm.c 140 (by decide) (by decide))⟩
  · rw [e28]; exact bk.2.copy wb.1 (by omega)
  · intro p p0 p1; rw [mm.c 176 (by decide) (by decide)]; exact tr p p0 p1
  · unfold RG; rw [mm.f 139 92 (by decide) (by decide)]; exact rg
  · rw [mm.f 139 63 (by decide) (by decide)] at h63
    exact (hi h63).keep bk wb mm (by decide) (by decide)
  · rw [mm.f 139 93 (by decide) (by decide)]; exact t2
theorem im_ok {m m' m2 : ST} (h : IM m) (f : FRG m m') (lv : LV m' (1 - m.1 139 28)) (mm2 : md [(139, 92), (139, 49), (139, 62), (139, 63)] [176, 203] (ui m' 139 28 (1 - m.1 139 28)) m2) (tr' : TR m2) (e92 : m2.1 139 92 = 0) (e49 : m2.1 139 49 = -1) (e63 : m2.1 139 63 = 0) (hx : ∀ k, 0 ≤ k → k < 3 → m2.1 203 k = 0) : IM m2 ∧ m2.1 139 93 = m.1 139 93 ∧ m2.1 139 2 = 0 ∧ m2.1 140 = m.1 140 ∧ m2.1 139 4 = m'.1 139 4 ∧ m2.1 139 5 = m'.1 139 5 := by
  obtain ⟨bk, ld, tr, rg, hi, ⟨t1, t2⟩, bx⟩ := id h
  obtain ⟨mm, wx, e2, e29⟩ := f
  have b01 := bk.1
  have mA : md [(139, 28)] [] m' (ui m' 139 28 (1 - m.1 139 28)) := (by repeat' (first | exact md.rf | assumption | refine md.ui ?_ ?_ | refine md.uj ?_ ?_ | exact Or.inr (by decide) | exact Or.inl (by decide)))
  have e28 : m2.1 139 28 = 1 - m.1 139 28 := by rw [mm2.f 139 28 (by decide) (by decide), ui_same]
  have lvA : LV (ui m' 139 28 (1 - m.1 139 28)) (1 - m.1 139 28) := lv.copy (WX.md mA (by decide) (by decide)).1 (by omega)
  have lv2 : LV m2 (1 - m.1 139 28) := lvA.copy (WX.md mm2 (by decide) (by decide)).1 (by omega)
  have e93 : m2.1 139 93 = m.1 139 93 := by rw [mm2.f 139 93 (by decide) (by decide), mA.f 139 93 (by decide) (by decide), mm.f 139 93 (by decide) (by decide)]
  have e2' : m2.1 139 2 = 0 := by rw [mm2.f 139 2 (by decide) (by decide), mA.f 139 2 (by decide) (by decide)]; exact e2
  refine ⟨⟨⟨by omega, by rw [e28]; exact lv2⟩, fun h => by omega, tr', by unfold RG; omega, fun h => absurd e63 h, ⟨by omega, by rw [e93]; exact t2⟩, fun k k0 k1 hk => absurd (hx k k0 k1) hk⟩, e93, e2', ?_, ?_, ?_⟩
  · funext z; rw [mm2.c 140 (by decide) (by decide), mA.c 140 (by decide) (by decide), mm.c 140 (by decide) (by decide)]
  · rw [mm2.f 139 4 (by decide) (by decide), mA.f 139 4 (by decide) (by decide)]
  · rw [mm2.f 139 5 (by decide) (by decide), mA.f 139 5 (by decide) (by decide)]
theorem e_goOnWith {s : ST} {Q : ST → Int → Prop} (ix : IX s) (hQ : ∀ s', KX s s' → Q s' (s.1 18 1)) : C_X10_goOnWith 18 s Q := by
  have f2 : isT 2 := Or.inl rfl
  refine s_X10_goOnWith ?_
  (repeat' (with_reducible first | refine ⟨?_, ?_⟩ | intro _))
  refine s_X9_copyFrom fun _ ho _ => s_X9_copyKindWords fun _ _ _ => ?_
  have k0 := ((KX.rf ix).ut (x := 0) (v := s.1 18 0) f2 (fun _ => ix.zx.t0 (Or.inr (Or.inl rfl)))).ut (x := 1) (v := (ui s 2 0 (s.1 18 0)).1 18 1) f2
  have k2 := (k0.ut (x := 2) (v := (ui (ui s 2 0 (s.1 18 0)) 2 1 ((ui s 2 0 (s.1 18 0)).1 18 1)).1 18 2) f2).cpI (i := 18 + 14) (j := 2 + 14) (k := 20) (by unfold freeC; omega)
  have f : ∀ k, 1 ≤ k ∧ k ≤ 14 → freeC (2 + k) := fun k hk => f2.fr hk
  have kZ := ((((((((((((k2.cpJ (i := 18 + 1) (j := 2 + 1) (k := 8)).cpI (i := 18 + 2) (j := 2 + 2) (k := 8) (f 2 (by decide))).cpI (i := 18 + 3) (j := 2 + 3) (k := 40) (f 3 (by decide))).cpI (i := 18 + 4) (j := 2 + 4) (k := 40) (f 4 (by decide))).cpI (i := 18 + 5) (j := 2 + 5) (k := 40) (f 5 (by decide))).cpI (i := 18 + 6) (j := 2 + 6) (k := 40) (f 6 (by decide))).cpI (i := 18 + 7) (j := 2 + 7) (k := 40) (f 7 (by decide))).cpI (i := 18 + 8) (j := 2 + 8) (k := 40) (f 8 (by decide))).cpI (i := 18 + 9) (j := 2 + 9) (k := 120) (f 9 (by decide))).cpJ (i := 18 + 10) (j := 2 + 10) (k := 40)).cpI (i := 18 + 11) (j := 2 + 11) (k := 40) (f 11 (by decide))).cpI (i := 18 + 12) (j := 2 + 12) (k := 40) (f 12 (by decide))).cpI (i := 18 + 13) (j := 2 + 13) (k := 40) (f 13 (by decide))
  have eZ : (cpI (cpI (cpI (cpJ (cpI (cpI (cpI (cpI (cpI (cpI (cpI (cpI (cpJ (cpI (ui (ui (ui s 2 0 (s.1 18 0)) 2 1 ((ui s 2 0 (s.1 18 0)).1 18 1)) 2 2 ((ui (ui s 2 0 (s.1 18 0)) 2 1 ((ui s 2 0 (s.1 18 0)).1 18 1)).1 18 2)) (18 + 14) (2 + 14) 20) (18 + 1) (2 + 1) 8) (18 + 2) (2 + 2) 8) (18 + 3) (2 + 3) 40) (18 + 4) (2 + 4) 40) (18 + 5) (2 + 5) 40) (18 + 6) (2 + 6) 40) (18 + 7) (2 + 7) 40) (18 + 8) (2 + 8) 40) (18 + 9) (2 + 9) 120) (18 + 10) (2 + 10) 40) (18 + 11) (2 + 11) 40) (18 + 12) (2 + 12) 40) (18 + 13) (2 + 13) 40).1 2 1 = s.1 18 1 := by
    have cj : ∀ {z : ST} {i j : Nat} {k : Int}, (cpJ z i j k).1 = z.1 := rfl
    simp (disch := decide) only [cpI_cell, cj]
    rw [ui_ne (by decide), ui_same, ui_cell (by decide)]
  generalize cpI (cpI (cpI (cpJ (cpI (cpI (cpI (cpI (cpI (cpI (cpI (cpI (cpJ (cpI (ui (ui (ui s 2 0 (s.1 18 0)) 2 1 ((ui s 2 0 (s.1 18 0)).1 18 1)) 2 2 ((ui (ui s 2 0 (s.1 18 0)) 2 1 ((ui s 2 0 (s.1 18 0)).1 18 1)).1 18 2)) (18 + 14) (2 + 14) 20) (18 + 1) (2 + 1) 8) (18 + 2) (2 + 2) 8) (18 + 3) (2 + 3) 40) (18 + 4) (2 + 4) 40) (18 + 5) (2 + 5) 40) (18 + 6) (2 + 6) 40) (18 + 7) (2 + 7) 40) (18 + 8) (2 + 8) 40) (18 + 9) (2 + 9) 120) (18 + 10) (2 + 10) 40) (18 + 11) (2 + 11) 40) (18 + 12) (2 + 12) 40) (18 + 13) (2 + 13) 40 = z at *
  refine s_X8_forget fun _ => ?_
  have kz2 : KX s (ui z 88 0 0) := KX_put kZ (by omega) (fun e => by omega) (fun e => by omega)
  refine f_X0_list (Or.inl rfl) kz2.1 fun s3 l3 => ?_
  have e3 : s3.1 2 1 = s.1 18 1 := (l3.2 2 1 (Or.inl (by decide))).1.trans ((ui_cell (by decide)).trans eZ)
  have k3 : KX s (ui s3 67 0 0) := KX_put (kz2.tr l3.1) (by omega) (fun e => by omega) (fun e => by omega)
  refine s_X1_forget fun _ => ?_
  have e4 : (ui (ui (ui s3 67 0 0) 69 0 0) 69 4 0).1 2 1 = s.1 18 1 := by rw [ui_cell (by decide), ui_cell (by decide), ui_cell (by decide)]; exact e3
  rw [e4]
  exact hQ _ (KX_put (KX_put (KX_put (KX_put k3 (by omega) (fun e => by omega) (fun e => by omega)) (by omega) (fun e => by omega) (fun e => by omega)) (by omega) (fun e => by omega) (fun e => by omega)) (by omega) (fun e => by omega) (fun e => by omega))
end PROG
