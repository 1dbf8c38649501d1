/-! READING ALIKE: bound words and kinds, side by side -/
def BNF (x x' : ST) (p : Int) : Prop := md xmF [28] x x' ∧ ∀ z, z ≠ p → x'.2 28 z = x.2 28 z
theorem FIS_k {x : ST} {c : Int} {a : Nat} (h : a ≠ 46) : (FIS x c).1 a = x.1 a := funext fun z => (md46 FIS_md (by decide) a h z).1
section SIDE2
variable {s0 x : ST} {p : Int}
theorem m_bound {Q : ST → Prop} (k : KZ s0 x) (hp : PT x) (h0 : x.1 46 0 = 0) (hpl : 0 ≤ p ∧ p < x.1 18 1 ∧ p < 40) (hQ : ∀ x', BNF x x' p → KZ s0 x' → PT x' → (∀ m b g QR, OKR x m → (40 * b ≤ g ∧ g < 40 * b + 40) → (0 ≤ b ∧ b ≤ 1) → (∀ m', md mF [158] m m' → RM b m m' → RDC m' → (∀ z, z ≠ g → m'.2 158 z = m.2 158 z) → (ERR x' m' ∨ (OKR x' m' ∧ WR (x'.2 28 p) (m'.2 158 g))) → QR m') → C_X11_readWord m g QR) → Q x') : C_X7_readBound x p Q := by
  have rw24 : ∀ m b g QR, (40 * b ≤ g ∧ g < 40 * b + 40) → (0 ≤ b ∧ b ≤ 1) → (∀ t, (t ≠ 0 ↔ m.1 139 8 = 2) → C_X11_must (uj m 158 g (m.2 139 10)) t QR) → C_X11_readWord m g QR := by
    intro m b g QR hg hb hm
    refine s_X11_readWord ?_
    (repeat' (with_reducible first | refine ⟨?_, ?_⟩ | intro _))
    all_goals first | omega | skip
    · refine s_X11_readWord_24 fun _ _ => hm 0 ⟨fun h => absurd rfl h, fun h => by omega⟩
    · refine s_X11_readWord_24 fun _ _ => hm 1 ⟨fun _ => by omega, fun _ => by decide⟩
  have k18 : ¬ (x.1 46 5 = 1 ∧ x.1 46 9 = -1) → K_X7_readBound_18 x Q := by
    intro hn
    refine s_X7_readBound_18 ?_
    (repeat' (with_reducible first | refine ⟨?_, ?_⟩ | intro _))
    refine m_refuse (hQ _ ⟨FIS_md.mono (by decide) (by decide), fun z _ => rfl⟩ (k.m46 FIS_md (by decide)) hp fun m b g QR ho hg hb hm => rw24 m b g QR hg hb fun t ht => ?_)
    have e := ho.tok.2.1
    refine m_must ho.2.2.2.1 (fun h => absurd (e.mpr (ht.mp h)) hn) (fun _ => ?_)
    refine m_misplaced (x := x) ho.2.2.1 ho.2.2.2.1 fun m' mm er => hm m' ((show md mF [158] m (uj m 158 g (m.2 139 10)) from (by repeat' (first | exact md.rf | assumption | refine md.ui ?_ ?_ | refine md.uj ?_ ?_ | exact Or.inr (by decide) | exact Or.inl (by decide)))).tr (mm.mono (by decide) (by decide))) ((RM.rf.uj (by unfold RW; omega)).tr (RM.md mm (by decide))) (RDC.keep (s := uj m 158 g (m.2 139 10)) ho.2.1 mm (by decide) (by decide)) (fun z hz => ?_) (Or.inl er)
    rw [mm.cj 158 (by decide) (by decide)]; exact uj_ne hz
  refine s_X7_readBound ?_
  refine fun _ _ => ⟨fun h => k18 (fun e => by omega), fun hn => ⟨fun _ => ⟨by omega, ?_⟩, fun h => absurd ⟨by omega, by omega, by omega⟩ h⟩⟩
  refine m_token (x := uj x 28 p (x.2 46 7)) (k.kx (KX.uj (KX.rf k.1))) hp.1 fun x' mx kz px sim => ?_
  have e46 := md46 mx (by decide)
  refine hQ x' ⟨(show md xmF [28] x (uj x 28 p (x.2 46 7)) from (by repeat' (first | exact md.rf | assumption | refine md.ui ?_ ?_ | refine md.uj ?_ ?_ | exact Or.inr (by decide) | exact Or.inl (by decide)))).tr (mx.mono (by decide) (by decide)), fun z hz => by rw [(e46 28 (by decide) z).2]; exact uj_ne hz⟩ kz px fun m b g QR ho hg hb hm => rw24 m b g QR hg hb fun t ht => ?_
  have e := ho.tok.2.1
  have hw := ho.tok.2.2.1 hn
  refine m_must ho.2.2.2.1 (fun _ => ?_) (fun h => absurd h (ht.mpr (e.mp hn)))
  refine sim (uj m 158 g (m.2 139 10)) QR ho.1 ho.2.1.2.2 ho.2.2.1.2.1 fun m' mm rd tx tk => ?_
  refine hm m' ((show md mF [158] m (uj m 158 g (m.2 139 10)) from (by repeat' (first | exact md.rf | assumption | refine md.ui ?_ ?_ | refine md.uj ?_ ?_ | exact Or.inr (by decide) | exact Or.inl (by decide)))).tr (mm.mono (by decide) (by decide))) ((RM.rf.uj (by unfold RW; omega)).tr (RM.md mm (by decide))) rd (fun z hz => ?_) (Or.inr ⟨⟨tx, rd, tk, ?_, ?_⟩, ?_⟩)
  · rw [mm.cj 158 (by decide) (by decide)]; exact uj_ne hz
  · rw [mm.f 139 4 (by decide) (by decide)]; exact ho.2.2.2.1
  · rw [mx.f 46 0 (by decide) (by decide)]; exact ho.2.2.2.2
  · rw [mm.cj 158 (by decide) (by decide), (e46 28 (by decide) p).2, uj_same, uj_same]; exact hw
def kdF : List (Nat × Int) := (18, 2) :: xmF
def kdC : List Nat := [30, 31, 32]
def STK (x m : ST) (b g : Int) : Prop := OKR x m ∧ ((40 * b ≤ g ∧ g < 40 * b + 40) ∧ (0 ≤ b ∧ b ≤ 1) ∧ m.1 139 29 = b) ∧ x.1 18 2 = m.1 144 b ∧ (0 ≤ m.1 144 b ∧ m.1 144 b ≤ 20) ∧ ∀ k, 0 ≤ k → k < m.1 144 b → 0 ≤ m.1 156 (20 * b + k) ∧ m.1 156 (20 * b + k) ≤ 5
theorem m_kinds {Q : ST → Prop} (k : KZ s0 x) (hp : PT x) (h0 : x.1 46 0 = 0) (hpl : 0 ≤ p ∧ p < x.1 18 1 ∧ p < 40) (h2 : 0 ≤ x.1 18 2 ∧ x.1 18 2 ≤ 20) (hQ : ∀ x', md kdF kdC x x' → KZ s0 x' → PT x' → (0 ≤ x'.1 18 2 ∧ x'.1 18 2 ≤ 20) → (∀ m b g QR, STK x m b g → (∀ m', RK m m' b g → (ERR x' m' ∨ (OKR x' m' ∧ x'.1 18 2 = m'.1 144 b)) → QR m') → C_X11_readKind m g QR) → Q x') : C_X7_readKinds x p Q := by
  have k32 : ∀ (n : Nat) (x1 : ST) (a2 a3 : Int), 21 - a3 ≤ (n : Int) → (0 ≤ a3 ∧ a3 ≤ x1.1 18 2) → (0 ≤ a2 ∧ a2 ≤ 1 + a3) → KZ s0 x1 → PT x1 → md kdF kdC x x1 → x1.1 46 0 = 0 → (0 ≤ x1.1 18 2 ∧ x1.1 18 2 ≤ 20) → (0 ≤ x1.1 30 p ∧ x1.1 30 p ≤ 20) → (∀ m0 b g QR, STK x m0 b g → (∀ m, I17 m0 m b g a2 → OKR x1 m → x1.1 18 2 = m.1 144 b → K_X11_readKind_17 m g a2 QR) → C_X11_readKind m0 g QR) → K_X7_readKinds_32 x1 p a2 a3 Q := by
    intro n
    induction n with
    | zero => intro x1 a2 a3 hn h3 hb2 kz px mx f0 h18 h30 adv; omega
    | succ n ih =>
      intro x1 a2 a3 hn h3 hb2 kz px mx f0 h18 h30 adv
      have k159 : a2 ≤ 0 → K_X7_readKinds_159 x1 p Q := by
        intro ha
        refine s_X7_readKinds_159 ?_
        (repeat' (with_reducible first | refine ⟨?_, ?_⟩ | intro _))
        all_goals first | omega | skip
        refine hQ _ (mx.tr (by repeat' (first | exact md.rf | assumption | refine md.ui ?_ ?_ | refine md.uj ?_ ?_ | exact Or.inr (by decide) | exact Or.inl (by decide)))) (kz.kx (KX.ui (KX.rf kz.1) (by unfold freeC; omega))) px h18 fun m0 b g QR st hm => adv m0 b g QR st fun m hi ho e2 => ?_
        obtain ⟨so, ⟨hg, hb, h29⟩, s2, s3, s4⟩ := st
        refine s_X11_readKind_17 fun _ _ _ => ⟨fun h => absurd ho.2.2.2.1 h, fun _ => ⟨fun _ => ?_, fun h => absurd ha h⟩⟩
        refine r_k128 hg hb h29 s3 hi (fun _ => ha) fun m' mm rk => hm m' rk (Or.inr ⟨⟨ho.1.keep rfl rfl (mm.f 139 3 (by decide) (by decide)) (funext (mm.c 141 (by decide) (by decide))) rfl (mm.f 139 5 (by decide) (by decide)), rk.2.2.1, ?_, ?_, ho.2.2.2.2⟩, ?_⟩)
        · have := ho.2.2.1
          unfold TKR at *
          rw [mm.f 139 6 (by decide) (by decide), mm.f 139 7 (by decide) (by decide), mm.f 139 8 (by decide) (by decide), mm.fj 139 10 (by decide) (by decide)]; exact this
        · rw [mm.f 139 4 (by decide) (by decide)]; exact ho.2.2.2.1
        · rw [mm.c 144 (by decide) (by decide)]; exact e2
      have k104 : 0 < a2 → (KDX x1 < 0 ∨ 5 < KDX x1 ∨ 20 ≤ x1.1 18 2) → K_X7_readKinds_104 x1 Q := by
        intro ha hbad
        refine s_X7_readKinds_104 ?_
        (repeat' (with_reducible first | refine ⟨?_, ?_⟩ | intro _))
        refine m_refuse (hQ _ (mx.tr (FIS_md.mono (by decide) (by decide))) (kz.m46 FIS_md (by decide)) px h18 fun m0 b g QR st hm => adv m0 b g QR st fun m hi ho e2 => ?_)
        obtain ⟨so, ⟨hg, hb, h29⟩, s2, s3, s4⟩ := st
        have f29 := hi.1.f 139 29 (by decide) (by decide)
        have k51 : K_X11_readKind_51 m g a2 (F_X11_kindHere m) QR := s_X11_readKind_51 fun _ _ _ _ => m_misplaced ho.2.2.1 ho.2.2.2.1 fun m' mm er => s_X11_readKind_55 fun _ _ _ _ => ⟨fun h => absurd (er.2.1.symm.trans h) er.1, fun _ => hm m' (hi.err mm (fun h => er.1 (er.2.1.symm.trans h))) (Or.inl er)⟩
        have ka := kind_alike ho
        refine s_X11_readKind_17 ?_
        rw [f29, h29]
        (repeat' (with_reducible first | refine ⟨?_, ?_⟩ | intro _))
        all_goals first | omega | exact absurd ho.2.2.2.1 (by assumption) | exact k51
      have k69 : ∀ t0, 0 < a2 → (t0 = KDX x1 ∨ t0 = -1 ∧ KDX x1 < 0) → K_X7_readKinds_69 x1 p a2 a3 t0 Q := by
        intro t0 ha ht0
        have hka := ka_r (ui (ui x1 32 (x1.1 18 2) t0) 18 2 (x1.1 18 2 + 1)) t0
        refine s_X7_readKinds_69 ?_
        (repeat' (with_reducible first | refine ⟨?_, ?_⟩ | intro _))
        all_goals first | omega | exact k104 ha (by omega) | skip
        have kk : x1.1 18 2 < 20 → 0 ≤ t0 → t0 ≤ 5 → C_X7_readToken (ui (ui x1 32 (x1.1 18 2) t0) 18 2 (x1.1 18 2 + 1)) (fun s7 => R32 (a3 + 1) ∧ K_X7_readKinds_32 s7 p (a2 + (F_X10_kindArity (ui (ui x1 32 (x1.1 18 2) t0) 18 2 (x1.1 18 2 + 1)) t0 - 1)) (a3 + 1) Q) := by
          intro h20 hk0 hk5
          have kz1 : KZ s0 (ui (ui x1 32 (x1.1 18 2) t0) 18 2 (x1.1 18 2 + 1)) := kz.kx (KX.ut (KX.ui (KX.rf kz.1) (by unfold freeC; omega)) (Or.inr (Or.inl rfl)))
          refine m_token kz1 px.1 fun x2 m2 kz2 px2 sim => ⟨by unfold R32; omega, ?_⟩
          have e46 := md46 m2 (by decide)
          have e182 : x2.1 18 2 = x1.1 18 2 + 1 := by rw [(e46 18 (by decide) 2).1, ui_same]
          have e30 : x2.1 30 p = x1.1 30 p := (e46 30 (by decide) p).1
          have mxx : md kdF kdC x1 x2 := (show md kdF kdC x1 (ui (ui x1 32 (x1.1 18 2) t0) 18 2 (x1.1 18 2 + 1)) from (by repeat' (first | exact md.rf | assumption | refine md.ui ?_ ?_ | refine md.uj ?_ ?_ | exact Or.inr (by decide) | exact Or.inl (by decide)))).tr (m2.mono (by decide) (by decide))
          refine ih x2 _ _ (by omega) (by omega) (by omega) kz2 px2 (mx.tr mxx) (by rw [m2.f 46 0 (by decide) (by decide)]; exact f0) (by omega) (by omega) fun m0 b g QR st hm => adv m0 b g QR st fun m hi ho e2 => ?_
          obtain ⟨so, ⟨hg, hb, h29⟩, s2, s3, s4⟩ := st
          have f29 := hi.1.f 139 29 (by decide) (by decide)
          have hle := kindHere_le m
          rcases kind_alike ho with ⟨_, kb⟩ | ⟨ka1, ka2, ka3⟩
          · omega
          have ht0 : t0 = KDX x1 := by omega
          have ht := ka3 (ui (ui x1 32 (x1.1 18 2) t0) 18 2 (x1.1 18 2 + 1))
          rw [← ht0] at ht
          have hmod := hi.2.2.2.2.2.1
          have k119 : ∀ t, t = (if F_X11_kindHere m < 3 then -1 else if F_X11_kindHere m = 3 then 0 else 1) → K_X11_readKind_119 (ui (ui m 156 (20 * b + m.1 144 b) (F_X11_kindHere m)) 144 b (m.1 144 b + 1)) g a2 t QR := by
            intro t ht2
            have hrt : -1 ≤ t ∧ t ≤ 1 := by
              rw [ht2]
              split
              · omega
              · split <;> omega
            refine s_X11_readKind_119 fun _ _ _ _ => ⟨by omega, ?_⟩
            refine sim _ _ (ho.1.keep rfl rfl (ui_cell (by decide)) (funext fun z => ui_cell (by decide)) rfl (ui_cell (by decide))) ho.2.1.2.2 ho.2.2.1.2.1 fun m' mm rd tx tk => ?_
            have hi' := hi.step hg hb ho.2.2.2.1 (by omega) ka1 hle (by omega) s3.1 ht2 mm rd
            rw [ht2, ← ht] at hi' ⊢
            refine hm m' hi' ⟨tx, rd, tk, ?_, ?_⟩ ?_
            · rw [mm.f 139 4 (by decide) (by decide)]; exact ho.2.2.2.1
            · rw [m2.f 46 0 (by decide) (by decide)]; exact f0
            · rw [mm.c 144 (by decide) (by decide), ui_same, e182, e2]
          refine s_X11_readKind_17 ?_
          rw [f29, h29]
          (repeat' (with_reducible first | refine ⟨?_, ?_⟩ | intro _))
          all_goals first | omega | exact absurd ho.2.2.2.1 (by assumption) | skip
          refine s_X11_readKind_55 ?_
          rw [f29, h29]
          (repeat' (with_reducible first | refine ⟨?_, ?_⟩ | intro _))
          all_goals first | omega | exact absurd ho.2.2.2.1 (by assumption) | skip
          · exact k119 _ (by rw [if_neg (by omega), if_neg (by omega)])
          · exact k119 _ (by rw [if_neg (by omega), if_pos (by omega)])
          · exact k119 _ (by rw [if_pos (by omega)])
        exact kk (by omega) (by omega) (by omega)
      have k68 : 0 < a2 → KDX x1 < 0 → K_X7_readKinds_68 x1 p a2 a3 Q := fun ha hk => s_X7_readKinds_68 fun _ _ _ _ => k69 _ ha (Or.inr ⟨rfl, hk⟩)
      have px9 := px.2.2
      refine s_X7_readKinds_32 ?_
      (repeat' (with_reducible first | refine ⟨?_, ?_⟩ | intro _))
      all_goals first | omega | exact k159 (by omega) | skip
      · exact k68 (by omega) (by unfold KDX; split <;> omega)
      · exact k68 (by omega) (by unfold KDX; split <;> omega)
      · exact k69 _ (by omega) (Or.inl (by unfold KDX; rw [if_pos (by omega)]))
  refine s_X7_readKinds ?_
  (repeat' (with_reducible first | refine ⟨?_, ?_⟩ | intro _))
  all_goals first | omega | skip
  refine k32 21 _ _ 0 (by omega) ⟨by omega, h2.1⟩ (by omega) (k.kx (KX.ui (KX.rf k.1) (by unfold freeC; omega))) hp (by repeat' (first | exact md.rf | assumption | refine md.ui ?_ ?_ | refine md.uj ?_ ?_ | exact Or.inr (by decide) | exact Or.inl (by decide))) h0 h2 (by rw [ui_same]; exact h2) fun m0 b g QR st hm => ?_
  obtain ⟨so, ⟨hg, hb, h29⟩, s2, s3, s4⟩ := st
  refine s_X11_readKind ?_
  rw [h29]
  (repeat' (with_reducible first | refine ⟨?_, ?_⟩ | intro _))
  all_goals first | omega | skip
  have m1 : md [] [154] m0 (ui m0 154 g (m0.1 144 b)) := (by repeat' (first | exact md.rf | assumption | refine md.ui ?_ ?_ | refine md.uj ?_ ?_ | exact Or.inr (by decide) | exact Or.inl (by decide)))
  have e44 : (ui m0 154 g (m0.1 144 b)).1 144 b = m0.1 144 b := ui_cell (by decide)
  have e56 : ∀ z, (ui m0 154 g (m0.1 144 b)).1 156 z = m0.1 156 z := fun z => ui_cell (by decide)
  refine hm _ ⟨(by repeat' (first | exact md.rf | assumption | refine md.ui ?_ ?_ | refine md.uj ?_ ?_ | exact Or.inr (by decide) | exact Or.inl (by decide))), RM.rf.ui (by unfold RW; omega), so.2.1.keep m1 (by decide) (by decide), fun z hz => ⟨ui_ne hz, ui_cell (by decide)⟩, ui_same, by rw [e44]; omega, fun k _ => e56 _, fun k k0 k1 => by rw [e56]; exact s4 k k0 (by rw [e44] at k1; exact k1), fun _ => ?_⟩ so (s2.trans e44.symm)
  rw [e44, show (m0.1 144 b - m0.1 144 b).toNat = 0 by omega]
  exact ⟨rfl, fun j hj => absurd hj (by omega)⟩
end SIDE2
