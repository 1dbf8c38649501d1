/-! READING ALIKE: a DEF, side by side (2) -/
section DEF2
variable {s0 x : ST} {n : Int} {nD : Nat}
theorem r_177e {m : ST} {b : Int} {a : Int64} {t : Int} {QR : ST → Prop} (hb : 0 ≤ b ∧ b ≤ 1) (h29 : m.1 139 29 = b) (h43 : m.1 143 b = nD) (hD : nD ≤ 7) (h4 : m.1 139 4 ≠ 0) (hQ : ∀ m', RM b m m' → m'.1 139 4 = m.1 139 4 → m'.1 139 5 = m.1 139 5 → QR m') : K_X11_readDef_177 m a t QR := by
  refine s_X11_readDef_177 fun _ _ => ?_
  refine s_X11_must fun _ _ => ⟨fun h => absurd h h4, fun _ => ?_⟩
  rw [h29, h43]
  refine ⟨by unfold R32; omega, by omega, by unfold R32; omega, by omega, by unfold R32; omega, ?_⟩
  exact hQ _ ((RM.rf.uj (by unfold RW; omega)).ui (by unfold RW; omega)) (ui_cell (by decide)) (ui_cell (by decide))
theorem m_def {P : ST → Prop} (dx : DFX s0 x n nD)
    (hok : ∀ x' n', DFX s0 x' n' (nD + 1) → (∀ m QR b, DFM x m b n nD → (∀ m', RM b m m' → DFM x' m' b n' (nD + 1) → QR m') → C_X11_readDef m QR) → P x')
    (herr : ∀ x', KZ s0 x' → PT x' → x'.1 46 0 ≠ 0 → (∀ m QR b, DFM x m b n nD → (∀ m', RM b m m' → ERR x' m' → QR m') → C_X11_readDef m QR) → P x') : C_X7_readDef x (fun s1 => C_X7_readExpression s1 (fun s2 => C_X7_readSign s2 P)) := by
  obtain ⟨⟨kz, px, f0⟩, ⟨c1, c2⟩, ⟨c3, c4⟩, c5⟩ := id dx
  have dead : ∀ y, KZ s0 y → PT y → y.1 46 0 ≠ 0 → (∀ m QR b, DFM x m b n nD → (∀ m', RM b m m' → ERR y m' → QR m') → C_X11_readDef m QR) → C_X7_readExpression y (fun s2 => C_X7_readSign s2 P) := fun y ky py hy ad => x_expr_err hy (x_sign_err hy (herr y ky py hy ad))
  have e4of : ∀ {y m' : ST}, ERR y m' → m'.1 139 4 ≠ 0 := fun er h => er.1 (er.2.1.symm.trans h)
  have k30 : (¬ (x.1 46 5 = 1 ∧ x.1 46 9 = 2) ∨ nD = 8) → K_X7_readDef_30 x (fun s1 => C_X7_readExpression s1 (fun s2 => C_X7_readSign s2 P)) := by
    intro hbad
    refine s_X7_readDef_30 fun _ => m_refuse ?_
    refine dead _ (kz.m46 FIS_md (by decide)) px (by rw [FIS_0]; split <;> omega) fun m QR b D hm => ?_
    obtain ⟨h1, ⟨h2, h3, h4, h5⟩, h6, h7, h8⟩ := id D
    have k24 : K_X11_readDef_24 m QR := s_X11_readDef_24 fun _ => m_misplaced h1.2.2.1 h1.2.2.2.1 fun m' mm er => s_X11_readDef_28 fun _ => ⟨fun h => absurd h (e4of er), fun _ => hm m' (RM.md mm (by decide)) er⟩
    have hdt := def_tok h1
    refine s_X11_readDef fun _ => ⟨fun _ => k24, fun hd => ⟨by omega, ?_⟩⟩
    rw [h3, h5]
    refine ⟨fun h => ?_, fun _ => k24⟩
    rcases hbad with hb | hb
    · exact absurd (hdt.mpr hd) hb
    · omega
  refine s_X7_readDef ?_
  rw [c3]
  have main : (x.1 46 5 = 1 ∧ x.1 46 9 = 2) → nD < 8 → C_X7_readToken x (fun s2 => ((s2.1 46 5 = 1 ∧ s2.1 46 9 = (-1)) → K_X7_readDef_53 s2 0 (fun s1 => C_X7_readExpression s1 (fun s2 => C_X7_readSign s2 P))) ∧ (¬ (s2.1 46 5 = 1 ∧ s2.1 46 9 = (-1)) → C_X7_refuseToken s2 (fun s4 => C_X7_readExpression s4 (fun s2 => C_X7_readSign s2 P)))) := by
    intro hdef hD8
    refine m_token kz px.1 fun x2 m2 kz2 px2 sim => ?_
    have e46 := md46 m2 (by decide)
    have f02 : x2.1 46 0 = 0 := (m2.f 46 0 (by decide) (by decide)).trans f0
    have e180 : x2.1 18 0 = nD := (e46 18 (by decide) 0).1.trans c3
    have refgo : ∀ m QR b, DFM x m b n nD → (∀ m3, md gF [] m m3 → OKR x2 m3 → (m3.1 139 8 = 2 → K_X11_readDef_54 m3 0 QR) ∧ (m3.1 139 8 ≠ 2 → C_X11_misplaced m3 (fun s3 => K_X11_readDef_54 s3 0 QR))) → C_X11_readDef m QR := by
      intro m QR b D hm
      obtain ⟨h1, ⟨h2, h3, h4, h5⟩, h6, h7, h8⟩ := id D
      have k28 : K_X11_readDef_28 m QR := by
        refine s_X11_readDef_28 fun _ => ⟨fun _ => ?_, fun h => absurd h1.2.2.2.1 h⟩
        refine sim m _ h1.1 h1.2.1.2.2 h1.2.2.1.2.1 fun m3 mm rd tx tk => ?_
        exact hm m3 mm (h1.go m2 mm rd tx tk)
      have hdt := def_tok h1
      refine s_X11_readDef fun _ => ⟨fun h => absurd (hdt.mp hdef) h, fun hd => ⟨by omega, ?_⟩⟩
      rw [h3, h5]
      exact ⟨fun _ => k28, fun h => by omega⟩
    refine ⟨fun hname => ?_, fun hname => ?_⟩
    · refine e_53 e180 c4 (fun hdup => ?_) (fun hno => ?_)
      · -- told before
        refine dead _ (kz2.m46 FIS_md (by decide)) px2 (by rw [FIS_0]; decide) fun m QR b D hm => refgo m QR b D fun m3 mm ok => ?_
        obtain ⟨h1, ⟨h2, h3, h4, h5⟩, h6, h7, h8, h9, h10⟩ := id D
        have ht := ok.tok
        refine ⟨fun _ => ?_, fun h => absurd (ht.2.1.mp hname) h⟩
        refine r_54 (x := x2) (b := b) (nD := nD) ((mm.f 139 29 (by decide) (by decide)).trans h3) h2 ((mm.c 143 (by decide) (by decide) b).trans h5) c4 ok.2.2.2.1 ok.2.2.1.1 (fun _ m' mm' er => hm m' ((RM.md mm (by decide)).tr (RM.md mm' (by decide))) er) (fun hn => ?_)
        obtain ⟨d, hd, e⟩ := hdup
        exfalso
        have hw := (h9 d hd.1 hd.2).1
        rw [← (e46 19 (by decide) d).2, ← mm.cj 157 (by decide) (by decide)] at hw
        exact hn d hd.1 hd.2 ((hw.eq (ht.2.2.1 hname)).mp e)
      · -- its expression
        refine s_X7_readDef_99 ?_
        rw [e180]
        have kz3 : KZ s0 (ui (uj x2 19 nD (x2.2 46 7)) 18 0 ((nD : Int) + 1)) := kz2.kx (KX.ut (KX.uj (KX.rf kz2.1)) (Or.inr (Or.inl rfl)) (fun _ => by omega))
        have tk : C_X7_readToken (ui (uj x2 19 nD (x2.2 46 7)) 18 0 ((nD : Int) + 1)) (fun s1 => C_X7_readExpression s1 (fun s2 => C_X7_readSign s2 P)) := by
          refine m_token kz3 px2.1 fun x4 m4 kz4 px4 sim4 => ?_
          have e464 := md46 m4 (by decide)
          have g : ∀ c, c ≠ 18 → c ≠ 46 → ∀ z, x4.1 c z = x.1 c z := fun c h1 h2 z => (e464 c h2 z).1.trans ((ui_cell h1).trans (e46 c h2 z).1)
          have g181 : x4.1 18 1 = x.1 18 1 := (e464 18 (by decide) 1).1.trans ((ui_ne (by decide)).trans (e46 18 (by decide) 1).1)
          have g182 : x4.1 18 2 = x.1 18 2 := (e464 18 (by decide) 2).1.trans ((ui_ne (by decide)).trans (e46 18 (by decide) 2).1)
          have g180 : x4.1 18 0 = (nD : Int) + 1 := (e464 18 (by decide) 0).1.trans ui_same
          have g19 : ∀ z : Int, z ≠ nD → x4.2 19 z = x.2 19 z := fun z hz => (e464 19 (by decide) z).2.trans ((uj_ne hz).trans (e46 19 (by decide) z).2)
          have g19n : x4.2 19 nD = x2.2 46 7 := (e464 19 (by decide) nD).2.trans uj_same
          have g28 : ∀ z, x4.2 28 z = x.2 28 z := fun z => (e464 28 (by decide) z).2.trans (by rw [ui_j, uj_cell (by decide)]; exact (e46 28 (by decide) z).2)
          have f04 : x4.1 46 0 = 0 := (m4.f 46 0 (by decide) (by decide)).trans f02
          have cs4 : CSI s0 x4 0 (fun _ => 0) n n nD := ⟨⟨kz4, px4, f04⟩, ⟨g181.trans c1, c2⟩, ⟨g180, by omega⟩, by rw [g182]; exact c5, ⟨by omega, fun i i0 i1 => by omega⟩, by omega, fun _ => Or.inl rfl, fun h => by omega, fun h => by omega⟩
          have refgo2 : ∀ m QR b, DFM x m b n nD → (∀ m6 a, RM b m m6 → BEGR x4 m6 b 0 (fun _ => 0) n n nD → WR (x2.2 46 7) a → K_X11_readE_7 m6 1 (fun s8 => (¬ s8.1 139 8 = 5 → K_X11_readDef_177 s8 a 0 QR) ∧ (s8.1 139 8 = 5 → K_X11_readDef_177 s8 a 1 QR))) → C_X11_readDef m QR := by
            intro m QR b D hm
            refine refgo m QR b D fun m3 mm ok => ?_
            obtain ⟨h1, ⟨h2, h3, h4, h5⟩, h6, h7, h8, h9, h10⟩ := id D
            have ht := ok.tok
            have e29 : m3.1 139 29 = b := (mm.f 139 29 (by decide) (by decide)).trans h3
            have e43 : m3.1 143 b = nD := (mm.c 143 (by decide) (by decide) b).trans h5
            refine ⟨fun _ => ?_, fun h => absurd (ht.2.1.mp hname) h⟩
            refine r_54 (x := x2) (b := b) (nD := nD) e29 h2 e43 c4 ok.2.2.2.1 ok.2.2.1.1 (fun hd => ?_) (fun hn => ?_)
            · obtain ⟨d, hd, e⟩ := hd
              exfalso
              have hw := (h9 d hd.1 hd.2).1
              rw [← (e46 19 (by decide) d).2, ← mm.cj 157 (by decide) (by decide)] at hw
              exact hno d hd.1 hd.2 ((hw.eq (ht.2.2.1 hname)).mpr e)
            · refine s_X11_readDef_54 ?_
              rw [e29, e43]
              refine fun _ _ => ⟨by omega, fun _ => ⟨fun _ => ?_, fun h => absurd ok.2.2.2.1 h⟩, fun h => by omega⟩
              refine sim4 m3 _ ok.1 ok.2.1.2.2 ok.2.2.1.2.1 fun m5 mm5 rd5 tx5 tk5 => ?_
              have mt : md gF [] m m5 := mm.tr mm5
              have ok5 : OKR x4 m5 := ⟨tx5, rd5, tk5, (mm5.f 139 4 (by decide) (by decide)).trans ok.2.2.2.1, f04⟩
              have x29 : m5.1 139 29 = b := (mt.f 139 29 (by decide) (by decide)).trans h3
              have x43 : m5.1 143 b = nD := (mt.c 143 (by decide) (by decide) b).trans h5
              have x42 : m5.1 142 b = n := (mt.c 142 (by decide) (by decide) b).trans h4
              rw [x29, x43, x42]
              refine ⟨by unfold R32; omega, by omega, by unfold R32; omega, by omega, ?_⟩
              have w5 : WF m5 b := h7.keep mt (by decide) (by decide)
              have rs := RP.start w5 (by omega)
              rw [x43, x42] at rs
              have m6 : md [(139, 32)] [145] m5 (ui (ui m5 145 (8 * b + nD) n) 139 32 0) := (by repeat' (first | exact md.rf | assumption | refine md.ui ?_ ?_ | refine md.uj ?_ ?_ | exact Or.inr (by decide) | exact Or.inl (by decide)))
              refine s_X11_readE fun _ => hm _ _ ((RM.md mt (by decide)).tr ((RM.rf.ui (by unfold RW; omega)).ui (by unfold RW; omega))) ?_ (ht.2.2.1 hname)
              refine ⟨ok5.mem m6 (by decide) (by decide), ⟨h2, (m6.f 139 29 (by decide) (by decide)).trans x29, ui_same, (m6.c 142 (by decide) (by decide) b).trans x42, (m6.c 143 (by decide) (by decide) b).trans x43⟩, ?_, ?_, fun p p0 p1 => ?_, fun d d0 d1 => ⟨?_, ?_⟩, fun p j p0 p1 j0 hj => ?_, fun i i0 i1 => by omega⟩
              · rw [g182, h6, m6.c 144 (by decide) (by decide), mt.c 144 (by decide) (by decide)]
              · have r2 : RP (ui (ui m5 145 (8 * b + nD) n) 139 32 0) b 0 n n nD (m5.1 144 b) := rs.keep (show md [(139, 32)] [] (ui m5 145 (8 * b + nD) n) (ui (ui m5 145 (8 * b + nD) n) 139 32 0) from (by repeat' (first | exact md.rf | assumption | refine md.ui ?_ ?_ | refine md.uj ?_ ?_ | exact Or.inr (by decide) | exact Or.inl (by decide)))) (by decide) (by decide)
                rw [m6.c 144 (by decide) (by decide)]; exact r2
              · rw [g 21 (by decide) (by decide), g28, g 29 (by decide) (by decide), m6.c 146 (by decide) (by decide), mt.c 146 (by decide) (by decide), m6.cj 158 (by decide) (by decide), mt.cj 158 (by decide) (by decide), m6.c 153 (by decide) (by decide), mt.c 153 (by decide) (by decide)]; exact h8 p p0 p1
              · rw [g19 d (by omega), m6.cj 157 (by decide) (by decide), mt.cj 157 (by decide) (by decide)]; exact (h9 d d0 d1).1
              · rw [g 20 (by decide) (by decide), ui_cell (by decide), ui_ne (by omega), mt.c 145 (by decide) (by decide)]; exact (h9 d d0 d1).2
              · rw [g 27 (by decide) (by decide), m6.c 152 (by decide) (by decide), mt.c 152 (by decide) (by decide)]
                refine h10 p j p0 p1 j0 ?_
                rcases hj with ⟨_, hj⟩ | ⟨i, hi, _⟩
                · left
                  rw [m6.c 146 (by decide) (by decide), mt.c 146 (by decide) (by decide)] at hj
                  exact ⟨fun ⟨i, hi, _⟩ => by omega, hj⟩
                · omega
          refine m_expr cs4 (fun x5 st n5 m45 cs5 hlt ad => ?_) (fun x5 m45 kz5 px5 h5 ad => ?_)
          · obtain ⟨⟨kz5, px5, f05⟩, ⟨c51, c52⟩, ⟨c53, c54⟩, c55, c56, c57⟩ := id cs5
            refine m_sign kz5 px5 f05 fun x6 m56 kz6 px6 sim6 => ?_
            have e56 := md46 m56 (by decide)
            have refend : ∀ m QR b, DFM x m b n nD → (∀ m', RM b m m' → (ERR x6 m' ∨ DFM x6 m' b n5 (nD + 1)) → QR m') → C_X11_readDef m QR := by
              intro m QR b D hm
              refine refgo2 m QR b D fun m6 a rm6 B hw => ad m6 b _ B fun m7 rm7 B7 hben => ?_
              obtain ⟨h1, ⟨h2, h3, h4, h5, h6⟩, h7, h8, h9, h10, h11, h12⟩ := id B7
              have k177 : ∀ t, (t ≠ 0 ↔ m7.1 139 8 = 5) → K_X11_readDef_177 m7 a t QR := by
                intro t ht
                refine s_X11_readDef_177 fun _ _ => sim6 m7 _ t h1 ht fun m8 mm8 hd => ?_
                have x29 : m8.1 139 29 = b := (mm8.f 139 29 (by decide) (by decide)).trans h3
                have x43 : m8.1 143 b = nD := (mm8.c 143 (by decide) (by decide) b).trans h6
                rw [x29, x43]
                refine ⟨by unfold R32; omega, by omega, by unfold R32; omega, by omega, by unfold R32; omega, ?_⟩
                have mm9 : md [] [143, 157] m8 (ui (uj m8 157 (8 * b + nD) a) 143 b ((nD : Int) + 1)) := (by repeat' (first | exact md.rf | assumption | refine md.ui ?_ ?_ | refine md.uj ?_ ?_ | exact Or.inr (by decide) | exact Or.inl (by decide)))
                have rm9 : RM b m (ui (uj m8 157 (8 * b + nD) a) 143 b ((nD : Int) + 1)) := ((((rm6.tr rm7).tr (RM.md mm8 (by decide))).uj (by unfold RW; omega)).ui (by unfold RW; omega))
                refine hm _ rm9 ?_
                rcases hd with er | ok
                · exact Or.inl ⟨er.1, (mm9.f 139 4 (by decide) (by decide)).trans er.2.1, (mm9.f 139 5 (by decide) (by decide)).trans er.2.2⟩
                · right
                  have mt : md mF [143, 157] m7 (ui (uj m8 157 (8 * b + nD) a) 143 b ((nD : Int) + 1)) := (mm8.mono (by decide) (by decide)).tr (mm9.mono (by decide) (by decide))
                  have g43 : (ui (uj m8 157 (8 * b + nD) a) 143 b ((nD : Int) + 1)).1 143 b = (nD : Int) + 1 := ui_same
                  have g157 : ∀ z, z ≠ 8 * b + (nD : Int) → (ui (uj m8 157 (8 * b + nD) a) 143 b ((nD : Int) + 1)).2 157 z = m7.2 157 z := fun z hz => (uj_ne hz).trans (mm8.cj 157 (by decide) (by decide) z)
                  have g157n : (ui (uj m8 157 (8 * b + nD) a) 143 b ((nD : Int) + 1)).2 157 (8 * b + nD) = a := uj_same
                  generalize ui (uj m8 157 (8 * b + nD) a) 143 b ((nD : Int) + 1) = m9 at *
                  refine ⟨ok.mem mm9 (by decide) (by decide), ⟨h2, (mt.f 139 29 (by decide) (by decide)).trans h3, (mt.c 142 (by decide) (by decide) b).trans h5, by rw [g43]; omega⟩, ?_, ?_, fun p p0 p1 => ?_, fun d d0 d1 => ?_, fun p j p0 p1 j0 hj => ?_⟩
                  · rw [(e56 18 (by decide) 2).1, mt.c 144 (by decide) (by decide)]; exact h7
                  · have c : ∀ z, z ∈ [(142 : Nat), 144, 145, 146, 149, 150, 151, 152, 153, 154, 155, 156] → m9.1 z = m7.1 z := by
                      intro z hz
                      funext y
                      simp only [List.mem_cons, List.not_mem_nil, or_false] at hz
                      exact mt.c z (by rcases hz with h | h | h | h | h | h | h | h | h | h | h | h <;> rw [h] <;> decide) (by rcases hz with h | h | h | h | h | h | h | h | h | h | h | h <;> rw [h] <;> decide) y
                    have hd := h8.done hlt hben
                    unfold WF bso ben bas bbi bkA bkL bdO bkd bdR bkC at *
                    rw [c 142 (by decide), c 144 (by decide), c 145 (by decide), c 146 (by decide), c 149 (by decide), c 150 (by decide), c 151 (by decide), c 152 (by decide), c 153 (by decide), c 154 (by decide), c 155 (by decide), c 156 (by decide), g43, h5]
                    exact ⟨hd.1, hd.2.1, hd.2.2.1, hd.2.2.2.1, hd.2.2.2.2.1, hd.2.2.2.2.2, by omega⟩
                  · rw [(e56 21 (by decide) p).1, (e56 28 (by decide) p).2, (e56 29 (by decide) p).1, mt.c 146 (by decide) (by decide), mt.cj 158 (by decide) (by decide), mt.c 153 (by decide) (by decide)]; exact h9 p p0 p1
                  · rw [(e56 19 (by decide) d).2, (e56 20 (by decide) d).1, mt.c 145 (by decide) (by decide)]
                    by_cases ed : d = (nD : Int)
                    · rw [ed, g157n, m45.cj 19 (by decide) (by decide), g19n]
                      refine ⟨hw, ?_⟩
                      rw [c57.2.2.2 hlt]
                      exact h8.1.2.2.2.2.2.2.2.2.1.symm
                    · rw [g157 _ (by omega)]; exact h10 d d0 (by omega)
                  · rw [(e56 27 (by decide) _).1, mt.c 152 (by decide) (by decide)]
                    refine h11 p j p0 p1 j0 ?_
                    rcases hj with ⟨_, hj⟩ | ⟨i, hi, _⟩
                    · left
                      rw [mt.c 146 (by decide) (by decide)] at hj
                      exact ⟨fun ⟨i, hi, _⟩ => by omega, hj⟩
                    · omega
              exact ⟨fun h => k177 0 ⟨fun e => absurd rfl e, fun e => absurd e h⟩, fun h => k177 1 ⟨fun _ => h, fun _ => by decide⟩⟩
            by_cases h6 : x6.1 46 0 = 0
            · refine hok x6 n5 ⟨⟨kz6, px6, h6⟩, ⟨(e56 18 (by decide) 1).1.trans c51, c52⟩, ⟨(e56 18 (by decide) 0).1.trans (c53.trans (by omega)), by omega⟩, by rw [(e56 18 (by decide) 2).1]; exact c55⟩ fun m QR b D hm => refend m QR b D fun m' rm hd => hm m' rm (hd.resolve_left fun er => er.1 h6)
            · exact herr x6 kz6 px6 h6 fun m QR b D hm => refend m QR b D fun m' rm hd => hm m' rm (hd.resolve_right fun d => h6 d.1.2.2.2.2)
          · refine x_sign_err h5 (herr x5 kz5 px5 h5 fun m QR b D hm => refgo2 m QR b D fun m6 a rm6 B hw => ad m6 b _ B fun m7 rm7 e43 er => ?_)
            have x29 : m7.1 139 29 = b := (rm7 139 29 (by unfold RW; omega)).1.trans B.2.1.2.1
            have kk : ∀ t, K_X11_readDef_177 m7 a t QR := fun t => r_177e B.2.1.1 x29 e43 (by omega) (e4of er) fun m' rm' e4 e5 => hm m' ((rm6.tr rm7).tr rm') ⟨er.1, e4.trans er.2.1, e5.trans er.2.2⟩
            exact ⟨fun _ => kk 0, fun _ => kk 1⟩
        (repeat' (with_reducible first | refine ⟨?_, ?_⟩ | intro _))
        all_goals first | omega | exact tk
    · -- no name
      refine m_refuse ?_
      refine dead _ (kz2.m46 FIS_md (by decide)) px2 (by rw [FIS_0]; split <;> omega) fun m QR b D hm => refgo m QR b D fun m3 mm ok => ?_
      obtain ⟨h1, ⟨h2, h3, h4, h5⟩, h6, h7, h8, h9, h10⟩ := id D
      have ht := ok.tok
      refine ⟨fun h => absurd (ht.2.1.mpr h) hname, fun _ => ?_⟩
      refine m_misplaced (x := x2) ok.2.2.1 ok.2.2.2.1 fun m' mm' er => ?_
      exact r_54e (b := b) (nD := nD) ((mm'.f 139 29 (by decide) (by decide)).trans ((mm.f 139 29 (by decide) (by decide)).trans h3)) h2 ((mm'.c 143 (by decide) (by decide) b).trans ((mm.c 143 (by decide) (by decide) b).trans h5)) (e4of er) (hm m' ((RM.md mm (by decide)).tr (RM.md mm' (by decide))) er) nD 0 (by omega) (by omega) c4
  (repeat' (with_reducible first | refine ⟨?_, ?_⟩ | intro _))
  all_goals first | omega | exact k30 (Or.inl (by assumption)) | exact k30 (Or.inr (by omega)) | exact main (by assumption) (by omega) | skip
end DEF2
