/-! READING ALIKE: the CLASS's tokens, exactly -/
def LTR (c : Int) : Prop := 97 ≤ c ∧ c ≤ 122
def DGT (c : Int) : Prop := 48 ≤ c ∧ c ≤ 57
def BLK (c : Int) : Prop := c = 32 ∨ c = 10
def SCN (g : Int → Int) (P : Int → Prop) (p q : Int) : Prop := p ≤ q ∧ (∀ i, p ≤ i → i < q → P (g i)) ∧ ¬ P (g q)
theorem SCN.uniq {g : Int → Int} {P : Int → Prop} {p q r : Int} (h : SCN g P p q) (k : SCN g P p r) : q = r := by
  by_cases h1 : q < r
  · exact absurd (k.2.1 q h.1 h1) h.2.2
  · by_cases h2 : r < q
    · exact absurd (h.2.1 r k.1 h2) k.2.2
    · omega
def w32n (g : Int → Int) (q : Int) : Nat → Nat
  | 0 => 0
  | k + 1 => 32 * w32n g q k + (g (q + k) - 96).toNat
def c256 (g : Int → Int) (q : Int) : Nat → Nat
  | 0 => 0
  | k + 1 => 256 * c256 g q k + (g (q + k)).toNat
theorem c256_cv {g : Int → Int} {q : Int} : ∀ k : Nat, (∀ i : Nat, i < k → LTR (g (q + i))) → c256 g q k = cv (w32n g q k) ∧ w32n g q k < 32 ^ k := by
  intro k
  induction k with
  | zero => intro _; exact ⟨by unfold c256 w32n; exact cv_zero.symm, by unfold w32n; decide⟩
  | succ k ih =>
    intro h
    obtain ⟨e, l⟩ := ih fun i hi => h i (by omega)
    have hk := h k (by omega)
    unfold LTR at hk
    refine ⟨?_, ?_⟩
    · show 256 * c256 g q k + (g (q + k)).toNat = cv (32 * w32n g q k + (g (q + k) - 96).toNat)
      rw [cv_step (by omega) (by omega), e]; omega
    · show 32 * w32n g q k + (g (q + k) - 96).toNat < 32 ^ (k + 1)
      rw [Nat.pow_succ]; omega
def OWNW (s : ST) : Prop := (s.1 46 9 = -1 ∧ ∀ k, 0 ≤ k → k < 24 → s.2 47 k ≠ s.2 46 7) ∨ ((0 ≤ s.1 46 9 ∧ s.1 46 9 < 24) ∧ s.2 47 (s.1 46 9) = s.2 46 7)
def XTK (g : Int → Int) (p : Int) (s : ST) : Prop := ∃ q, SCN g BLK p q ∧ s.1 46 6 = q ∧
  ((g q = -1 ∧ s.1 46 5 = 0 ∧ s.1 46 4 = q) ∨
   (LTR (g q) ∧ ∃ r, SCN g LTR q r ∧ s.1 46 4 = r ∧ ((r - q ≤ 8 ∧ s.1 46 5 = 1 ∧ s.2 46 7 = Int64.ofNat (w32n g q (r - q).toNat) ∧ OWNW s) ∨ (8 < r - q ∧ s.1 46 5 = 4))) ∨
   (DGT (g q) ∧ ∃ r, SCN g DGT q r ∧ s.1 46 4 = r ∧ ((r - q ≤ 4 ∧ ¬ LTR (g r) ∧ s.1 46 5 = 2) ∨ ((4 < r - q ∨ LTR (g r)) ∧ s.1 46 5 = 4))) ∨
   (g q = 59 ∧ s.1 46 5 = 3 ∧ s.1 46 4 = q + 1) ∨
   ((g q ≠ -1 ∧ ¬ LTR (g q) ∧ ¬ DGT (g q) ∧ g q ≠ 59) ∧ s.1 46 5 = 4 ∧ s.1 46 4 = q + 1))
def xtF : List (Nat × Int) := [(46, 4), (46, 5), (46, 6), (46, 7), (46, 8), (46, 9)]
theorem sg_md {s0 s : ST} (h : md xtF [] s0 s) (z : Int) : F_X7_signAt s z = F_X7_signAt s0 z := by
  unfold F_X7_signAt
  rw [h.f 46 3 (by decide) (by decide), h.c 1 (by decide) (by decide)]
section XTOK
variable {s0 s : ST} {p q : Int}
theorem e_X7_88 {Q : ST → Prop} : ∀ (n : Nat) (s : ST) (a1 : Int), 24 - a1 ≤ (n : Int) → 0 ≤ a1 → s.1 46 9 = -1 → (∀ k, 0 ≤ k → k < a1 → s.2 47 k ≠ s.2 46 7) → (∀ s', md [(46, 9)] [] s s' → -1 ≤ s'.1 46 9 ∧ s'.1 46 9 < 24 → OWNW s' → Q s') → K_X7_readWord_88 s a1 Q := by
  intro n
  induction n with
  | zero =>
    intro s a1 hn h1 h9 hw hQ
    refine s_X7_readWord_88 ?_
    (repeat' (with_reducible first | refine ⟨?_, ?_⟩ | intro _))
    all_goals first | omega | exact hQ _ md.rf (by omega) (Or.inl ⟨h9, fun k k0 k1 => hw k k0 (by omega)⟩)
  | succ n ih =>
    intro s a1 hn h1 h9 hw hQ
    refine s_X7_readWord_88 ?_
    refine fun _ _ => ⟨fun _ => hQ _ md.rf (by omega) (Or.inl ⟨h9, fun k k0 k1 => hw k k0 (by omega)⟩), fun h24 => ⟨by omega, fun hne => ⟨by unfold R32; omega, ih s (a1 + 1) (by omega) (by omega) h9 (fun k k0 k1 => ?_) hQ⟩, fun he => ?_⟩⟩
    · by_cases e : k = a1
      · rw [e]; exact hne
      · exact hw k k0 (by omega)
    · have e9 : (ui s 46 9 a1).1 46 9 = a1 := ui_same
      exact hQ _ (by repeat' (first | exact md.rf | assumption | refine md.ui ?_ ?_ | refine md.uj ?_ ?_ | exact Or.inr (by decide) | exact Or.inl (by decide))) (by omega) (Or.inr ⟨by omega, by rw [e9]; exact he⟩)
def XAT (s0 s : ST) (q : Int) : Prop := md xtF [] s0 s ∧ SCN (F_X7_signAt s0) BLK (s0.1 46 4) q ∧ s.1 46 6 = q ∧ (0 ≤ q ∧ q ≤ 1600)
theorem e_X7_readWord {Q : ST → Prop} (h : XAT s0 s q) (h4 : s.1 46 4 = q) (h9 : s.1 46 9 = -1) (hl : LTR (F_X7_signAt s0 q)) (hQ : ∀ s', md xtF [] s0 s' → PT s' → XTK (F_X7_signAt s0) (s0.1 46 4) s' → Q s') : C_X7_readWord s Q := by
  have k63 : ∀ s1, XAT s0 s1 q → (q ≤ s1.1 46 4 ∧ s1.1 46 4 ≤ 1600) → SCN (F_X7_signAt s0) LTR q (s1.1 46 4) → s1.1 46 9 = -1 → s1.2 46 7 = Int64.ofNat (w32n (F_X7_signAt s0) q (s1.1 46 4 - q).toNat) → K_X7_readWord_63 s1 Q := by
    intro s1 x1 h1 hs h91 hw
    have x6 := x1.2.2.1
    have x7 := x1.2.2.2
    refine s_X7_readWord_63 ?_
    (repeat' (with_reducible first | refine ⟨?_, ?_⟩ | intro _))
    all_goals first | omega | skip
    · refine e_X7_88 24 _ 0 (by omega) (by omega) h91 (fun k k0 k1 => by omega) fun s2 m2 b2 o2 => ?_
      have e4 : s2.1 46 4 = s1.1 46 4 := m2.f 46 4 (by decide) (by decide)
      have e6 : s2.1 46 6 = q := (m2.f 46 6 (by decide) (by decide)).trans x6
      have e5 : s2.1 46 5 = 1 := m2.f 46 5 (by decide) (by decide)
      have e7 : s2.2 46 7 = s1.2 46 7 := m2.fj 46 7 (by decide) (by decide)
      refine hQ s2 (x1.1.tr ((md.rf.ui (Or.inl (by decide))).tr (m2.mono (by decide) (by decide)))) ⟨⟨by omega, by omega⟩, by omega, b2⟩ ⟨q, x1.2.1, e6, Or.inr (Or.inl ⟨hl, _, hs, e4, Or.inl ⟨by omega, e5, e7.trans hw, o2⟩⟩)⟩
    · refine e_X7_88 24 _ 0 (by omega) (by omega) h91 (fun k k0 k1 => by omega) fun s2 m2 b2 o2 => ?_
      have e4 : s2.1 46 4 = s1.1 46 4 := m2.f 46 4 (by decide) (by decide)
      have e6 : s2.1 46 6 = q := (m2.f 46 6 (by decide) (by decide)).trans x6
      have e5 : s2.1 46 5 = 4 := m2.f 46 5 (by decide) (by decide)
      refine hQ s2 (x1.1.tr ((md.rf.ui (Or.inl (by decide))).tr (m2.mono (by decide) (by decide)))) ⟨⟨by omega, by omega⟩, by omega, b2⟩ ⟨q, x1.2.1, e6, Or.inr (Or.inl ⟨hl, _, hs, e4, Or.inr ⟨by omega, e5⟩⟩)⟩
  have k7 : ∀ (n : Nat) (s1 : ST) (a1 : Int), 1601 - a1 ≤ (n : Int) → a1 = s1.1 46 4 - q → XAT s0 s1 q → (q ≤ s1.1 46 4 ∧ s1.1 46 4 ≤ 1600) → (∀ i, q ≤ i → i < s1.1 46 4 → LTR (F_X7_signAt s0 i)) → s1.1 46 9 = -1 → s1.2 46 7 = Int64.ofNat (w32n (F_X7_signAt s0) q (s1.1 46 4 - q).toNat) → K_X7_readWord_7 s1 a1 Q := by
    intro n
    induction n with
    | zero =>
      intro s1 a1 hn ha x1 h1 hs h91 hw
      have := x1.2.2.2
      omega
    | succ n ih =>
      intro s1 a1 hn ha x1 h1 hs h91 hw
      have x7 := x1.2.2.2
      have esg := sg_md x1.1 (s1.1 46 4)
      have hr := sign_r s0 (s1.1 46 4)
      refine s_X7_readWord_7 ?_
      rw [esg]
      (repeat' (with_reducible first | refine ⟨?_, ?_⟩ | intro _))
      all_goals first | omega | skip
      · refine k63 s1 x1 h1 ⟨h1.1, hs, ?_⟩ h91 hw
        unfold LTR; omega
      · have e4 : (ui (uj s1 46 7 (32 * s1.2 46 7 + Int64.ofInt (F_X7_signAt s0 (s1.1 46 4) - 97 + 1))) 46 4 (s1.1 46 4 + 1)).1 46 4 = s1.1 46 4 + 1 := ui_same
        have e7 : (ui (uj s1 46 7 (32 * s1.2 46 7 + Int64.ofInt (F_X7_signAt s0 (s1.1 46 4) - 97 + 1))) 46 4 (s1.1 46 4 + 1)).2 46 7 = 32 * s1.2 46 7 + Int64.ofInt (F_X7_signAt s0 (s1.1 46 4) - 97 + 1) := by rw [ui_j, uj_same]
        refine ih _ _ (by omega) (by omega) ⟨x1.1.tr (by repeat' (first | exact md.rf | assumption | refine md.ui ?_ ?_ | refine md.uj ?_ ?_ | exact Or.inr (by decide) | exact Or.inl (by decide))), x1.2.1, x1.2.2.1, x7⟩ (by omega) (fun i i0 i1 => ?_) h91 ?_
        · by_cases e : i = s1.1 46 4
          · rw [e]; unfold LTR; omega
          · exact hs i i0 (by omega)
        · rw [e7, e4, hw, show (s1.1 46 4 + 1 - q).toNat = (s1.1 46 4 - q).toNat + 1 by omega]
          show _ = Int64.ofNat (32 * w32n (F_X7_signAt s0) q (s1.1 46 4 - q).toNat + (F_X7_signAt s0 (q + ((s1.1 46 4 - q).toNat : Int)) - 96).toNat)
          rw [show q + ((s1.1 46 4 - q).toNat : Int) = s1.1 46 4 by omega, ← w32_step, show F_X7_signAt s0 (s1.1 46 4) - 97 + 1 = (((F_X7_signAt s0 (s1.1 46 4) - 96).toNat : Nat) : Int) by omega]
  refine s_X7_readWord ?_
  (repeat' (with_reducible first | refine ⟨?_, ?_⟩ | intro _))
  have x7 := h.2.2.2
  refine k7 1601 _ 0 (by omega) (by show (0 : Int) = s.1 46 4 - q; omega) ⟨h.1.tr (by repeat' (first | exact md.rf | assumption | refine md.ui ?_ ?_ | refine md.uj ?_ ?_ | exact Or.inr (by decide) | exact Or.inl (by decide))), h.2⟩ (by show q ≤ s.1 46 4 ∧ s.1 46 4 ≤ 1600; omega) (fun i i0 i1 => by have : i < s.1 46 4 := i1; omega) h9 ?_
  show (uj s 46 7 0).2 46 7 = _
  rw [uj_same, show ((uj s 46 7 0).1 46 4 - q).toNat = 0 from (by show (s.1 46 4 - q).toNat = 0; omega)]
  rfl
theorem e_X7_readNumber {Q : ST → Prop} (h : XAT s0 s q) (h4 : s.1 46 4 = q) (h9 : s.1 46 9 = -1) (hl : DGT (F_X7_signAt s0 q)) (hQ : ∀ s', md xtF [] s0 s' → PT s' → XTK (F_X7_signAt s0) (s0.1 46 4) s' → Q s') : C_X7_readNumber s Q := by
  have k99 : ∀ s1 t0, XAT s0 s1 q → (q ≤ s1.1 46 4 ∧ s1.1 46 4 ≤ 1600) → SCN (F_X7_signAt s0) DGT q (s1.1 46 4) → s1.1 46 9 = -1 → (t0 = 0 → 4 < s1.1 46 4 - q ∨ LTR (F_X7_signAt s0 (s1.1 46 4))) → (t0 ≠ 0 → s1.1 46 4 - q ≤ 4 ∧ ¬ LTR (F_X7_signAt s0 (s1.1 46 4))) → K_X7_readNumber_99 s1 t0 Q := by
    intro s1 t0 x1 h1 hs h91 ht hf
    have x6 := x1.2.2.1
    have x7 := x1.2.2.2
    refine s_X7_readNumber_99 ?_
    refine fun _ _ => ⟨fun e => ?_, fun e => ?_⟩
    · exact hQ _ (x1.1.tr (by repeat' (first | exact md.rf | assumption | refine md.ui ?_ ?_ | refine md.uj ?_ ?_ | exact Or.inr (by decide) | exact Or.inl (by decide)))) ⟨⟨by show 0 ≤ s1.1 46 4; omega, by show s1.1 46 4 ≤ 1600; omega⟩, by show 0 ≤ s1.1 46 6 ∧ s1.1 46 6 ≤ 1600; omega, by show -1 ≤ s1.1 46 9 ∧ s1.1 46 9 < 24; omega⟩ ⟨q, x1.2.1, x6, Or.inr (Or.inr (Or.inl ⟨hl, _, hs, rfl, Or.inr ⟨ht e, ui_same⟩⟩))⟩
    · exact hQ _ (x1.1.tr (by repeat' (first | exact md.rf | assumption | refine md.ui ?_ ?_ | refine md.uj ?_ ?_ | exact Or.inr (by decide) | exact Or.inl (by decide)))) ⟨⟨by show 0 ≤ s1.1 46 4; omega, by show s1.1 46 4 ≤ 1600; omega⟩, by show 0 ≤ s1.1 46 6 ∧ s1.1 46 6 ≤ 1600; omega, by show -1 ≤ s1.1 46 9 ∧ s1.1 46 9 < 24; omega⟩ ⟨q, x1.2.1, x6, Or.inr (Or.inr (Or.inl ⟨hl, _, hs, rfl, Or.inl ⟨(hf e).1, (hf e).2, ui_same⟩⟩))⟩
  have k67 : ∀ s1, XAT s0 s1 q → (q ≤ s1.1 46 4 ∧ s1.1 46 4 ≤ 1600) → SCN (F_X7_signAt s0) DGT q (s1.1 46 4) → s1.1 46 9 = -1 → K_X7_readNumber_67 s1 Q := by
    intro s1 x1 h1 hs h91
    have x6 := x1.2.2.1
    have x7 := x1.2.2.2
    have esg := sg_md x1.1 (s1.1 46 4)
    refine s_X7_readNumber_67 ?_
    rw [esg]
    (repeat' (with_reducible first | refine ⟨?_, ?_⟩ | intro _))
    all_goals first | omega | skip
    · refine s_X7_readNumber_98 fun _ => k99 s1 0 x1 h1 hs h91 (fun _ => Or.inl (by omega)) (fun e => absurd rfl e)
    · refine s_X7_readNumber_98 fun _ => k99 s1 0 x1 h1 hs h91 (fun _ => Or.inr (by unfold LTR; omega)) (fun e => absurd rfl e)
    · refine k99 s1 1 x1 h1 hs h91 (fun e => absurd e (by decide)) (fun _ => ⟨by omega, by unfold LTR; omega⟩)
  have k7 : ∀ (n : Nat) (s1 : ST) (a1 : Int), 1601 - a1 ≤ (n : Int) → a1 = s1.1 46 4 - q → XAT s0 s1 q → (q ≤ s1.1 46 4 ∧ s1.1 46 4 ≤ 1600) → (∀ i, q ≤ i → i < s1.1 46 4 → DGT (F_X7_signAt s0 i)) → s1.1 46 9 = -1 → K_X7_readNumber_7 s1 a1 Q := by
    intro n
    induction n with
    | zero =>
      intro s1 a1 hn ha x1 h1 hs h91
      have := x1.2.2.2
      omega
    | succ n ih =>
      intro s1 a1 hn ha x1 h1 hs h91
      have x7 := x1.2.2.2
      have esg := sg_md x1.1 (s1.1 46 4)
      have hr := sign_r s0 (s1.1 46 4)
      refine s_X7_readNumber_7 ?_
      rw [esg]
      (repeat' (with_reducible first | refine ⟨?_, ?_⟩ | intro _))
      all_goals first | omega | skip
      · refine k67 s1 x1 h1 ⟨h1.1, hs, ?_⟩ h91
        unfold DGT; omega
      · generalize w32 _ = w
        have e4 : (ui (ui s1 46 8 w) 46 4 (s1.1 46 4 + 1)).1 46 4 = s1.1 46 4 + 1 := ui_same
        refine ih _ _ (by omega) (by omega) ⟨x1.1.tr (by repeat' (first | exact md.rf | assumption | refine md.ui ?_ ?_ | refine md.uj ?_ ?_ | exact Or.inr (by decide) | exact Or.inl (by decide))), x1.2.1, x1.2.2.1, x7⟩ (by omega) (fun i i0 i1 => ?_) h91
        by_cases e : i = s1.1 46 4
        · rw [e]; unfold DGT; omega
        · exact hs i i0 (by omega)
  refine s_X7_readNumber ?_
  (repeat' (with_reducible first | refine ⟨?_, ?_⟩ | intro _))
  have x7 := h.2.2.2
  exact k7 1601 _ 0 (by omega) (by show (0 : Int) = s.1 46 4 - q; omega) ⟨h.1.tr (by repeat' (first | exact md.rf | assumption | refine md.ui ?_ ?_ | refine md.uj ?_ ?_ | exact Or.inr (by decide) | exact Or.inl (by decide))), h.2⟩ (by show q ≤ s.1 46 4 ∧ s.1 46 4 ≤ 1600; omega) (fun i i0 i1 => by have : i < s.1 46 4 := i1; omega) h9
theorem e_X7_readToken {s0 : ST} {Q : ST → Prop} (h : TPO s0) (hQ : ∀ s', md xtF [] s0 s' → PT s' → XTK (F_X7_signAt s0) (s0.1 46 4) s' → Q s') : C_X7_readToken s0 Q := by
  have k39 : ∀ (s1 : ST), md xtF [] s0 s1 → TPO s1 → SCN (F_X7_signAt s0) BLK (s0.1 46 4) (s1.1 46 4) → K_X7_readToken_39 s1 Q := by
    intro s1 m1 p1 hsc
    have ⟨e1, e2⟩ := p1
    have hs := sign_r s0 (s1.1 46 4)
    have m2 : md xtF [] s0 (ui (ui s1 46 6 (s1.1 46 4)) 46 9 (-1)) := m1.tr (by repeat' (first | exact md.rf | assumption | refine md.ui ?_ ?_ | refine md.uj ?_ ?_ | exact Or.inr (by decide) | exact Or.inl (by decide)))
    have esg := sg_md m2 (s1.1 46 4)
    have x2 : XAT s0 (ui (ui s1 46 6 (s1.1 46 4)) 46 9 (-1)) (s1.1 46 4) := ⟨m2, hsc, rfl, e1, e2⟩
    have pp : ∀ (s2 : ST), s2.1 46 4 = s1.1 46 4 ∨ s2.1 46 4 = s1.1 46 4 + 1 ∧ s1.1 46 4 < 1600 → s2.1 46 6 = s1.1 46 4 → s2.1 46 9 = -1 → PT s2 := fun s2 a b c => ⟨⟨by omega, by omega⟩, by omega, by omega⟩
    refine s_X7_readToken_39 ?_
    rw [esg]
    (repeat' (with_reducible first | refine ⟨?_, ?_⟩ | intro _))
    all_goals first | omega | skip
    · exact hQ _ (m2.tr (by repeat' (first | exact md.rf | assumption | refine md.ui ?_ ?_ | refine md.uj ?_ ?_ | exact Or.inr (by decide) | exact Or.inl (by decide)))) (pp _ (Or.inr ⟨ui_same, by omega⟩) rfl rfl) ⟨_, hsc, rfl, Or.inr (Or.inr (Or.inr (Or.inr ⟨⟨by omega, by unfold LTR; omega, by unfold DGT; omega, by omega⟩, rfl, ui_same⟩)))⟩
    · exact hQ _ (m2.tr (by repeat' (first | exact md.rf | assumption | refine md.ui ?_ ?_ | refine md.uj ?_ ?_ | exact Or.inr (by decide) | exact Or.inl (by decide)))) (pp _ (Or.inr ⟨ui_same, by omega⟩) rfl rfl) ⟨_, hsc, rfl, Or.inr (Or.inr (Or.inr (Or.inl ⟨by omega, rfl, ui_same⟩)))⟩
    · exact e_X7_readNumber x2 rfl rfl (by unfold DGT; omega) hQ
    · exact e_X7_readWord x2 rfl rfl (by unfold LTR; omega) hQ
    · exact hQ _ (m2.tr (by repeat' (first | exact md.rf | assumption | refine md.ui ?_ ?_ | refine md.uj ?_ ?_ | exact Or.inr (by decide) | exact Or.inl (by decide)))) (pp _ (Or.inl rfl) rfl rfl) ⟨_, hsc, rfl, Or.inl ⟨by omega, rfl, rfl⟩⟩
  have k2 : ∀ (n : Nat) (s1 : ST) (a1 : Int), 1601 - a1 ≤ (n : Int) → a1 ≤ s1.1 46 4 → md xtF [] s0 s1 → TPO s1 → (s0.1 46 4 ≤ s1.1 46 4 ∧ ∀ i, s0.1 46 4 ≤ i → i < s1.1 46 4 → BLK (F_X7_signAt s0 i)) → K_X7_readToken_2 s1 a1 Q := by
    intro n
    induction n with
    | zero =>
      intro s1 a1 hn h1 m1 p1 hb
      have := p1.2
      omega
    | succ n ih =>
      intro s1 a1 hn h1 m1 p1 hb
      have ⟨e1, e2⟩ := p1
      have hs := sign_r s0 (s1.1 46 4)
      have esg := sg_md m1 (s1.1 46 4)
      refine s_X7_readToken_2 ?_
      rw [esg]
      (repeat' (with_reducible first | refine ⟨?_, ?_⟩ | intro _))
      all_goals first | omega | skip
      · exact k39 s1 m1 p1 ⟨hb.1, hb.2, by unfold BLK; omega⟩
      · have e4 : (ui s1 46 4 (s1.1 46 4 + 1)).1 46 4 = s1.1 46 4 + 1 := ui_same
        refine ih _ _ (by omega) (by omega) (m1.tr (by repeat' (first | exact md.rf | assumption | refine md.ui ?_ ?_ | refine md.uj ?_ ?_ | exact Or.inr (by decide) | exact Or.inl (by decide)))) ⟨by omega, by omega⟩ ⟨by omega, fun i i0 i1 => ?_⟩
        by_cases e : i = s1.1 46 4
        · rw [e]; unfold BLK; omega
        · exact hb.2 i i0 (by omega)
  refine s_X7_readToken ?_
  (repeat' (with_reducible first | refine ⟨?_, ?_⟩ | intro _))
  exact k2 1601 _ 0 (by omega) h.1 md.rf h ⟨by omega, fun i i0 i1 => by omega⟩
end XTOK
