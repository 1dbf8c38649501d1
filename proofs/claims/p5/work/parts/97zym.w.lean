/-! READING ALIKE: the rest of a place, side by side -/
def RIN (x m : ST) (b : Int) : Prop := OKR x m ∧ ((0 ≤ b ∧ b ≤ 1) ∧ m.1 139 29 = b) ∧ x.1 18 2 = m.1 144 b ∧ (0 ≤ m.1 144 b ∧ m.1 144 b ≤ 20) ∧ ∀ k, 0 ≤ k → k < m.1 144 b → 0 ≤ m.1 156 (20 * b + k) ∧ m.1 156 (20 * b + k) ≤ 5
theorem PB2.one {m m1 m2 : ST} {b n so bi : Int} (h : PB2 m m1 b n so bi) (hb : 0 ≤ b ∧ b ≤ 1) (hn : 0 ≤ n ∧ n < 40) (h16 : so ≠ 16) (hK : 0 ≤ m.1 144 b ∧ m.1 144 b ≤ 20) (hC : ∀ k, 0 ≤ k → k < m.1 144 b → 0 ≤ m.1 156 (20 * b + k) ∧ m.1 156 (20 * b + k) ≤ 5) (mm : md mF [158] m1 m2) (rm : RM b m1 m2) (rd : RDC m2) : PB1 m m2 b n so bi := by
  obtain ⟨p1, p2, p3, p4, p5, p6, p7, p8, p9⟩ := h
  have e44 : m2.1 144 b = m.1 144 b := (mm.c 144 (by decide) (by decide) b).trans (p1.c 144 (by decide) (by decide) b)
  have e56 : ∀ z, m2.1 156 z = m.1 156 z := fun z => (mm.c 156 (by decide) (by decide) z).trans (p1.c 156 (by decide) (by decide) z)
  refine ⟨(p1.mono (by decide) (by decide)).tr (mm.mono (by decide) (by decide)), p2.tr rm, rd, fun z hz => ?_, ⟨?_, ?_, ?_, ?_⟩, by omega, fun k _ => e56 _, fun k k0 k1 => by rw [e56]; exact hC k k0 (by omega), fun e => absurd e h16⟩
  · obtain ⟨a1, a2, a3, _⟩ := p4 z hz
    exact ⟨(mm.c 146 (by decide) (by decide) z).trans a1, (mm.c 149 (by decide) (by decide) z).trans a2, (mm.c 153 (by decide) (by decide) z).trans a3, (mm.c 154 (by decide) (by decide) z).trans (p1.c 154 (by decide) (by decide) z), (mm.c 155 (by decide) (by decide) z).trans (p1.c 155 (by decide) (by decide) z)⟩
  · exact (mm.c 142 (by decide) (by decide) b).trans p5
  · exact (mm.c 146 (by decide) (by decide) _).trans p6
  · exact (mm.c 149 (by decide) (by decide) _).trans p7
  · exact (mm.c 153 (by decide) (by decide) _).trans p8
theorem PB2.kind {m m1 m2 m3 : ST} {b n so bi : Int} (h : PB2 m m1 b n so bi) (hK : 0 ≤ m.1 144 b ∧ m.1 144 b ≤ 20) (mm : md gF [] m1 m2) (rk : RK m2 m3 b (40 * b + n)) : PB1 m m3 b n so bi := by
  obtain ⟨p1, p2, p3, p4, p5, p6, p7, p8, p9⟩ := h
  obtain ⟨r1, r2, r3, r4, r5, r6, r7, r8⟩ := rk
  have e44 : m2.1 144 b = m.1 144 b := (mm.c 144 (by decide) (by decide) b).trans (p1.c 144 (by decide) (by decide) b)
  have e56 : ∀ z, m2.1 156 z = m.1 156 z := fun z => (mm.c 156 (by decide) (by decide) z).trans (p1.c 156 (by decide) (by decide) z)
  refine ⟨((p1.mono (by decide) (by decide)).tr (mm.mono (by decide) (by decide))).tr (r1.mono (by decide) (by decide)), (p2.tr (RM.md mm (by decide))).tr r2, r3, fun z hz => ?_, ⟨?_, ?_, ?_, ?_⟩, by omega, fun k hk => by rw [r6 k (by omega)]; exact e56 _, r7, fun _ h4 => r8 h4⟩
  · obtain ⟨a1, a2, a3, _⟩ := p4 z hz
    obtain ⟨b1, b2⟩ := r4 z hz
    exact ⟨(r1.c 146 (by decide) (by decide) z).trans ((mm.c 146 (by decide) (by decide) z).trans a1), (r1.c 149 (by decide) (by decide) z).trans ((mm.c 149 (by decide) (by decide) z).trans a2), (r1.c 153 (by decide) (by decide) z).trans ((mm.c 153 (by decide) (by decide) z).trans a3), b1.trans ((mm.c 154 (by decide) (by decide) z).trans (p1.c 154 (by decide) (by decide) z)), b2.trans ((mm.c 155 (by decide) (by decide) z).trans (p1.c 155 (by decide) (by decide) z))⟩
  · exact (r1.c 142 (by decide) (by decide) b).trans ((mm.c 142 (by decide) (by decide) b).trans p5)
  · exact (r1.c 146 (by decide) (by decide) _).trans ((mm.c 146 (by decide) (by decide) _).trans p6)
  · exact (r1.c 149 (by decide) (by decide) _).trans ((mm.c 149 (by decide) (by decide) _).trans p7)
  · exact (r1.c 153 (by decide) (by decide) _).trans ((mm.c 153 (by decide) (by decide) _).trans p8)
def rsF : List (Nat × Int) := (18, 2) :: xmF
def rsC : List Nat := [28, 29, 30, 31, 32, 50]
def RSF (x x' : ST) (n : Int) : Prop := md rsF rsC x x' ∧ (∀ z, z ≠ n → x'.1 29 z = x.1 29 z ∧ x'.2 28 z = x.2 28 z) ∧ (0 ≤ x'.1 18 2 ∧ x'.1 18 2 ≤ 20)
def RSM (x x' : ST) (n so : Int) : Prop := ∀ m m1 b bi QR, RIN x m b → PB2 m m1 b n so bi → (∀ m', PB1 m m' b n so bi → (∀ z, z ≠ 40 * b + n → m'.2 158 z = m.2 158 z) → (ERR x' m' ∨ (OKR x' m' ∧ x'.1 18 2 = m'.1 144 b ∧ ((so = 3 ∨ so = 4) → WR (x'.2 28 n) (m'.2 158 (40 * b + n))))) → K_X11_beginsPlace_239 m' so n QR) → K_X11_beginsPlace_200 m1 so n (40 * b + n) QR
section REST
variable {s0 x : ST} {n so : Int}
theorem OKR.pb2 {m m1 : ST} {b bi : Int} (h : OKR x m) (p : PB2 m m1 b n so bi) : OKR x m1 := by
  obtain ⟨p1, _, p3, _⟩ := p
  obtain ⟨a1, a2, a3, a4, a5⟩ := h
  refine ⟨a1.keep rfl rfl (p1.f 139 3 (by decide) (by decide)) (funext (p1.c 141 (by decide) (by decide))) rfl (p1.f 139 5 (by decide) (by decide)), p3, ?_, (p1.f 139 4 (by decide) (by decide)).trans a4, a5⟩
  unfold TKR at *
  rw [p1.f 139 6 (by decide) (by decide), p1.f 139 7 (by decide) (by decide), p1.f 139 8 (by decide) (by decide), p1.fj 139 10 (by decide) (by decide)]; exact a3
theorem m_41 {Q : ST → Prop} (k : KZ s0 x) (hp : PT x) (h0 : x.1 46 0 = 0) (hn : 0 ≤ n ∧ n < x.1 18 1 ∧ n < 40) (h2 : 0 ≤ x.1 18 2 ∧ x.1 18 2 ≤ 20) (hQ : ∀ x', md rsF [28, 30, 31, 32] x x' → (∀ z, z ≠ n → x'.2 28 z = x.2 28 z) → (0 ≤ x'.1 18 2 ∧ x'.1 18 2 ≤ 20) → KZ s0 x' → PT x' → RSM x x' n so → Q x') : K_X7_readRest_41 x n so Q := by
  refine s_X7_readRest_41 ?_
  intros
  refine m_token k hp.1 fun x2 m2 kz2 px2 sim => ?_
  have f0 : x2.1 46 0 = 0 := (m2.f 46 0 (by decide) (by decide)).trans h0
  have e46 := md46 m2 (by decide)
  have e182 : x2.1 18 2 = x.1 18 2 := (e46 18 (by decide) 2).1
  have e181 : x2.1 18 1 = x.1 18 1 := (e46 18 (by decide) 1).1
  have e28 : ∀ z, x2.2 28 z = x.2 28 z := fun z => (e46 28 (by decide) z).2
  have go : ∀ m m1 b bi QR, RIN x m b → PB2 m m1 b n so bi → (∀ m3, md gF [] m1 m3 → OKR x2 m3 → ((so = 3 ∨ so = 4) → K_X11_beginsPlace_223 m3 so n (40 * b + n) QR) ∧ (¬ (so = 3 ∨ so = 4) → K_X11_beginsPlace_228 m3 so n (40 * b + n) QR)) → K_X11_beginsPlace_200 m1 so n (40 * b + n) QR := by
    intro m m1 b bi QR ri pb hm
    have ok1 := ri.1.pb2 pb
    refine s_X11_beginsPlace_200 fun _ _ _ _ => ⟨fun _ => ?_, fun h => absurd ok1.2.2.2.1 h⟩
    refine sim m1 _ ok1.1 ok1.2.1.2.2 ok1.2.2.1.2.1 fun m3 mm rd tx tk => ?_
    obtain ⟨h1, h2⟩ := hm m3 mm (ok1.go m2 mm rd tx tk)
    (repeat' (with_reducible first | refine ⟨?_, ?_⟩ | intro _))
    all_goals first | exact h1 (by omega) | exact h2 (by omega)
  by_cases c34 : so = 3 ∨ so = 4
  · have kb : K_X7_readRest_55 x2 n Q := by
      refine s_X7_readRest_55 fun _ _ => m_bound kz2 px2 f0 (by omega) fun x3 b3 kz3 px3 sim3 => ?_
      obtain ⟨b31, b32⟩ := b3
      have b18 := b31.f 18 2 (by decide) (by decide)
      refine hQ x3 ((m2.mono (by decide) (by decide)).tr (b31.mono (by decide) (by decide))) (fun z hz => (b32 z hz).trans (e28 z)) ?_ kz3 px3 fun m m1 b bi QR ri pb hm => go m m1 b bi QR ri pb fun m3 mm ok3 => ⟨fun _ => ?_, fun h => absurd c34 h⟩
      · rw [b18]; omega
      · refine s_X11_beginsPlace_223 fun _ _ _ _ => ?_
        obtain ⟨r1, ⟨r2, r3⟩, r4, r5, r6⟩ := ri
        refine sim3 m3 b (40 * b + n) _ ok3 (by omega) r2 fun m4 mm4 rm4 rd4 e158 hd => ?_
        refine s_X11_beginsPlace_228 fun _ _ _ _ => ⟨fun _ => ?_, fun h => absurd (by omega : so = 16) (by omega)⟩
        refine hm m4 (pb.one r2 (by omega) (by omega) r5 r6 ((mm.mono (by decide) (by decide)).tr mm4) ((RM.md mm (by decide)).tr rm4) rd4) (fun z hz => ?_) ?_
        · rw [e158 z hz, mm.cj 158 (by decide) (by decide)]; exact (pb.2.2.2.1 z hz).2.2.2
        · rcases hd with er | ⟨ok4, w4⟩
          · exact Or.inl er
          · refine Or.inr ⟨ok4, ?_, fun _ => w4⟩
            rw [b18, e182, r4, mm4.c 144 (by decide) (by decide), mm.c 144 (by decide) (by decide), pb.1.c 144 (by decide) (by decide)]
    (repeat' (with_reducible first | refine ⟨?_, ?_⟩ | intro _))
    all_goals first | exact kb | omega
  · by_cases c16 : so = 16
    · have kk : C_X7_readKinds x2 n Q := by
        refine m_kinds kz2 px2 f0 (by omega) (by omega) fun x3 b3 kz3 px3 h18 sim3 => ?_
        refine hQ x3 ((m2.mono (by decide) (by decide)).tr (b3.mono (by decide) (by decide))) (fun z _ => (b3.cj 28 (by decide) (by decide) z).trans (e28 z)) h18 kz3 px3 fun m m1 b bi QR ri pb hm => go m m1 b bi QR ri pb fun m3 mm ok3 => ⟨fun h => absurd h c34, fun _ => ?_⟩
        obtain ⟨r1, ⟨r2, r3⟩, r4, r5, r6⟩ := ri
        have e44 : m3.1 144 b = m.1 144 b := (mm.c 144 (by decide) (by decide) b).trans (pb.1.c 144 (by decide) (by decide) b)
        have e56 : ∀ z, m3.1 156 z = m.1 156 z := fun z => (mm.c 156 (by decide) (by decide) z).trans (pb.1.c 156 (by decide) (by decide) z)
        have e29 : m3.1 139 29 = b := (mm.f 139 29 (by decide) (by decide)).trans ((pb.1.f 139 29 (by decide) (by decide)).trans r3)
        refine s_X11_beginsPlace_228 fun _ _ _ _ => ⟨fun h => absurd c16 h, fun _ => ?_⟩
        refine sim3 m3 b (40 * b + n) _ ⟨ok3, ⟨by omega, r2, e29⟩, by omega, by omega, fun k k0 k1 => by rw [e56]; exact r6 k k0 (by omega)⟩ fun m4 rk hd => ?_
        refine hm m4 (pb.kind r5 mm rk) (fun z hz => ?_) ?_
        · rw [rk.1.cj 158 (by decide) (by decide), mm.cj 158 (by decide) (by decide)]; exact (pb.2.2.2.1 z hz).2.2.2
        · rcases hd with er | ⟨ok4, w4⟩
          · exact Or.inl er
          · exact Or.inr ⟨ok4, w4, fun h => absurd h c34⟩
      (repeat' (with_reducible first | refine ⟨?_, ?_⟩ | intro _))
      all_goals first | exact kk | omega
    · have fin : Q x2 := by
        refine hQ x2 (m2.mono (by decide) (by decide)) (fun z _ => e28 z) (by omega) kz2 px2 fun m m1 b bi QR ri pb hm => go m m1 b bi QR ri pb fun m3 mm ok3 => ⟨fun h => absurd h c34, fun _ => ?_⟩
        obtain ⟨r1, ⟨r2, r3⟩, r4, r5, r6⟩ := ri
        refine s_X11_beginsPlace_228 fun _ _ _ _ => ⟨fun _ => ?_, fun h => absurd (by omega : so = 16) c16⟩
        refine hm m3 (pb.one r2 (by omega) c16 r5 r6 (mm.mono (by decide) (by decide)) (RM.md mm (by decide)) ok3.2.1) (fun z hz => ?_) (Or.inr ⟨ok3, ?_, fun h => absurd h c34⟩)
        · rw [mm.cj 158 (by decide) (by decide)]; exact (pb.2.2.2.1 z hz).2.2.2
        · rw [e182, r4, mm.c 144 (by decide) (by decide), pb.1.c 144 (by decide) (by decide)]
      (repeat' (with_reducible first | refine ⟨?_, ?_⟩ | intro _))
      all_goals first | exact fin | omega
theorem m_rest {k : Nat} {st : Int → Int} {Q : ST → Prop} (kz : KZ s0 x) (hp : PT x) (h0 : x.1 46 0 = 0) (hn : 0 ≤ n ∧ n < x.1 18 1 ∧ n < 40) (h2 : 0 ≤ x.1 18 2 ∧ x.1 18 2 ≤ 20) (hso : x.1 21 n = so) (ph : so = 2 → PTH x k st n) (hu : 0 ≤ x.1 23 n ∧ x.1 23 n ≤ 7)
    (hN : so = 2 → (CLS st (INX x k st n) k ++ DLS (x.1 23 n).toNat).find? (fun a => decide (F_X9_wordOf 18 x a = x.2 46 7)) = none → ∀ x2, md [] [50] x x2 → KZ s0 x2 → Q (FIS x2 4))
    (hQ : ∀ x', RSF x x' n → (so ≠ 2 → x'.1 29 n = x.1 29 n) → (so = 2 → ∃ t, (CLS st (INX x k st n) k ++ DLS (x.1 23 n).toNat).find? (fun a => decide (F_X9_wordOf 18 x a = x.2 46 7)) = some t ∧ x'.1 29 n = t) → KZ s0 x' → PT x' → RSM x x' n so → Q x') : C_X7_readRest x n Q := by
  have rin : ∀ {x3 m : ST} {b : Int}, md [] [29, 50] x x3 → RIN x m b → RIN x3 m b := by
    intro x3 m b m3 ri
    obtain ⟨⟨a1, a2, a3, a4, a5⟩, r2, r3, r4⟩ := ri
    refine ⟨⟨a1.keep (m3.f 46 3 (by decide) (by decide)) (funext (m3.c 1 (by decide) (by decide))) rfl rfl (m3.f 46 1 (by decide) (by decide)) rfl, a2, ?_, a4, (m3.f 46 0 (by decide) (by decide)).trans a5⟩, r2, (m3.f 18 2 (by decide) (by decide)).trans r3, r4⟩
    unfold TKR at *
    rw [m3.f 46 6 (by decide) (by decide), m3.f 46 4 (by decide) (by decide), m3.f 46 5 (by decide) (by decide), m3.f 46 9 (by decide) (by decide), m3.fj 46 7 (by decide) (by decide)]; exact a3
  have pt : ∀ {x3 : ST}, md [] [29, 50] x x3 → PT x3 := by
    intro x3 m3
    unfold PT TPO at *
    rw [m3.f 46 4 (by decide) (by decide), m3.f 46 6 (by decide) (by decide), m3.f 46 9 (by decide) (by decide)]; exact hp
  refine s_X7_readRest ?_
  rw [hso]
  by_cases c2 : so = 2
  · have kt : C_X7_findTarget x n (fun s3 v3 => (v3 = 0 ∨ v3 = 1) → ((¬ v3 = 0 → K_X7_readRest_41 s3 n so Q) ∧ (v3 = 0 → C_X7_faultIs s3 4 (fun s4 => Q s4)))) := by
      refine e_findTarget (ph c2) hu (fun hf x2 m2 => fun _ => ⟨fun h => absurd rfl h, fun _ => x_fault (hN c2 hf x2 m2 (kz.kx (KX_50 kz.1 m2)))⟩) (fun t hf x2 m2 => fun _ => ⟨fun _ => ?_, fun h => absurd h (by decide)⟩)
      have m3 : md [] [29, 50] x (ui x2 29 n t) := (m2.mono (by decide) (by decide)).tr (by repeat' (first | exact md.rf | assumption | refine md.ui ?_ ?_ | refine md.uj ?_ ?_ | exact Or.inr (by decide) | exact Or.inl (by decide)))
      have kz3 : KZ s0 (ui x2 29 n t) := (kz.kx (KX_50 kz.1 m2)).kx (KX.ui (KX.rf (KX_50 kz.1 m2).1) (by unfold freeC; omega))
      have e181 := m3.f 18 1 (by decide) (by decide)
      have e182 := m3.f 18 2 (by decide) (by decide)
      refine m_41 kz3 (pt m3) ((m3.f 46 0 (by decide) (by decide)).trans h0) (by omega) (by omega) fun x' ms e28 h18 kz' px' rsm => ?_
      refine hQ x' ⟨(m3.mono (by decide) (by decide)).tr (ms.mono (by decide) (by decide)), fun z hz => ⟨?_, ?_⟩, h18⟩ (fun h => absurd c2 h) (fun _ => ⟨t, hf, ?_⟩) kz' px' fun m m1 b bi QR ri pb hm => rsm m m1 b bi QR (rin m3 ri) pb hm
      · rw [ms.c 29 (by decide) (by decide), ui_ne hz]; exact m2.c 29 (by decide) (by decide) z
      · rw [e28 z hz]; exact m3.cj 28 (by decide) (by decide) z
      · rw [ms.c 29 (by decide) (by decide), ui_same]
    (repeat' (with_reducible first | refine ⟨?_, ?_⟩ | intro _))
    all_goals first | omega | exact kt | skip
  · have k41 : K_X7_readRest_41 x n so Q := by
      refine m_41 kz hp h0 hn h2 fun x' ms e28 h18 kz' px' rsm => ?_
      exact hQ x' ⟨ms.mono (by decide) (by decide), fun z hz => ⟨ms.c 29 (by decide) (by decide) z, e28 z hz⟩, h18⟩ (fun _ => ms.c 29 (by decide) (by decide) n) (fun h => absurd h c2) kz' px' rsm
    (repeat' (with_reducible first | refine ⟨?_, ?_⟩ | intro _))
    all_goals first | omega | exact k41
end REST
