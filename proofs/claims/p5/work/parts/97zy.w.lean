/-! READING ALIKE: the reference's tokens, exactly -/
def XAR (s0 s : ST) (q : Int) : Prop := md gF [] s0 s ∧ RDC s ∧ s.1 139 3 = s0.1 139 3 ∧ SCN (F_X11_sign s0) BLK (s0.1 139 7) q ∧ s.1 139 6 = q ∧ q < s0.1 139 3
section RTOK
variable {s0 s : ST} {q : Int}
theorem rs_r (s : ST) (p : Int) : 0 ≤ F_X11_sign s p ∧ F_X11_sign s p ≤ 255 ∧ (s.1 139 3 ≤ p → F_X11_sign s p = 0) := by
  unfold F_X11_sign
  split
  · exact ⟨by omega, by omega, fun _ => rfl⟩
  · have := iand_le (x := s.1 141 p) (y := 255) (by omega) (by omega)
    exact ⟨this.1, this.2, fun h => by omega⟩
theorem rdc8 {v : Int} (h : RDC s) : RDC (ui s 139 8 v) := h
theorem e_goOn259 {Q : ST → Prop} (hQ : ∀ s', md gF [] s0 s' → RDC s' → RTK (F_X11_sign s0) (s0.1 139 3) (s0.1 139 7) s' → Q s') (hl : DGT (F_X11_sign s0 q)) : ∀ (m : Nat) (s : ST), s.1 139 3 - s.1 139 7 = (m : Int) → XAR s0 s q → NB s → q ≤ s.1 139 7 → (∀ i, q ≤ i → i < s.1 139 7 → DGT (F_X11_sign s0 i)) → K_X11_goOn_259 s Q := by
  intro m
  induction m with
  | zero =>
    intro s hm x hn h7 hd
    obtain ⟨m0, hr, x3, xs, x6, x7⟩ := id x
    obtain ⟨r1, r2, r3⟩ := id hr
    obtain ⟨n1, n2, n3, n4, n5, n6⟩ := id hn
    have hsg := rs_md m0 (s.1 139 7)
    have hz := (rs_r s0 (s.1 139 7)).2.2 (by omega)
    have hsc : SCN (F_X11_sign s0) DGT q (s.1 139 7) := ⟨h7, hd, by rw [hz]; unfold DGT; omega⟩
    refine s_X11_goOn_259 ?_
    rw [hsg]
    (repeat' (with_reducible first | refine ⟨?_, ?_⟩ | intro _))
    all_goals first | omega | exact P_sign hr r3.1 | skip
    · exact hQ _ (m0.tr (by repeat' (first | exact md.rf | assumption | refine md.ui ?_ ?_ | refine md.uj ?_ ?_ | exact Or.inr (by decide) | exact Or.inl (by decide)))) hr ⟨q, xs, x6, Or.inr (Or.inr (Or.inl ⟨x7, hl, _, hsc, rfl, Or.inr ⟨Or.inl (by omega), ui_same⟩⟩))⟩
    · exact hQ _ (m0.tr (by repeat' (first | exact md.rf | assumption | refine md.ui ?_ ?_ | refine md.uj ?_ ?_ | exact Or.inr (by decide) | exact Or.inl (by decide)))) hr ⟨q, xs, x6, Or.inr (Or.inr (Or.inl ⟨x7, hl, _, hsc, rfl, Or.inl ⟨by omega, by rw [hz]; unfold LTR; omega, ui_same⟩⟩))⟩
  | succ m ih =>
    intro s hm x hn h7 hd
    obtain ⟨m0, hr, x3, xs, x6, x7⟩ := id x
    obtain ⟨r1, r2, r3⟩ := id hr
    obtain ⟨n1, n2, n3, n4, n5, n6⟩ := id hn
    have hsg := rs_md m0 (s.1 139 7)
    have hz := rs_r s0 (s.1 139 7)
    refine s_X11_goOn_259 ?_
    rw [hsg]
    (repeat' (with_reducible first | refine ⟨?_, ?_⟩ | intro _))
    all_goals first | omega | exact P_sign hr r3.1 | skip
    · exact hQ _ (m0.tr (by repeat' (first | exact md.rf | assumption | refine md.ui ?_ ?_ | refine md.uj ?_ ?_ | exact Or.inr (by decide) | exact Or.inl (by decide)))) hr ⟨q, xs, x6, Or.inr (Or.inr (Or.inl ⟨x7, hl, _, ⟨h7, hd, by unfold DGT; omega⟩, rfl, Or.inr ⟨Or.inl (by omega), ui_same⟩⟩))⟩
    · exact hQ _ (m0.tr (by repeat' (first | exact md.rf | assumption | refine md.ui ?_ ?_ | refine md.uj ?_ ?_ | exact Or.inr (by decide) | exact Or.inl (by decide)))) hr ⟨q, xs, x6, Or.inr (Or.inr (Or.inl ⟨x7, hl, _, ⟨h7, hd, by unfold DGT; omega⟩, rfl, Or.inl ⟨by omega, by unfold LTR; omega, ui_same⟩⟩))⟩
    · exact hQ _ (m0.tr (by repeat' (first | exact md.rf | assumption | refine md.ui ?_ ?_ | refine md.uj ?_ ?_ | exact Or.inr (by decide) | exact Or.inl (by decide)))) hr ⟨q, xs, x6, Or.inr (Or.inr (Or.inl ⟨x7, hl, _, ⟨h7, hd, by unfold DGT; omega⟩, rfl, Or.inr ⟨Or.inr (by unfold LTR; omega), ui_same⟩⟩))⟩
    · have e3 : (ui s 139 7 (s.1 139 7 + 1)).1 139 3 = s.1 139 3 := ui_ne (by decide)
      have e6 : (ui s 139 7 (s.1 139 7 + 1)).1 139 6 = s.1 139 6 := ui_ne (by decide)
      have e7 : (ui s 139 7 (s.1 139 7 + 1)).1 139 7 = s.1 139 7 + 1 := ui_same
      have e9 : (ui s 139 7 (s.1 139 7 + 1)).1 139 9 = s.1 139 9 := ui_ne (by decide)
      refine ih _ (by rw [e3, e7]; omega) ⟨m0.tr (by repeat' (first | exact md.rf | assumption | refine md.ui ?_ ?_ | refine md.uj ?_ ?_ | exact Or.inr (by decide) | exact Or.inl (by decide))), ⟨by rw [e3]; exact r1, by rw [e6, e3]; exact r2, by rw [e7, e3]; omega⟩, by rw [e3]; exact x3, xs, by rw [e6]; exact x6, x7⟩ ?_ (by rw [e7]; omega) (fun i i0 i1 => ?_)
      · unfold NB
        rw [e6, e7, e9]
        exact ⟨by omega, by omega, fun _ => by omega, fun _ => by omega, fun _ => by omega, fun _ => by omega⟩
      · rw [e7] at i1
        by_cases e : i = s.1 139 7
        · rw [e]; unfold DGT; omega
        · exact hd i i0 (by omega)
    · generalize hv : 10 * s.1 139 9 + F_X11_sign s0 (s.1 139 7) - 48 = v
      have e3 : (ui (ui s 139 9 v) 139 7 (s.1 139 7 + 1)).1 139 3 = s.1 139 3 := by rw [ui_ne (by decide), ui_ne (by decide)]
      have e6 : (ui (ui s 139 9 v) 139 7 (s.1 139 7 + 1)).1 139 6 = s.1 139 6 := by rw [ui_ne (by decide), ui_ne (by decide)]
      have e7 : (ui (ui s 139 9 v) 139 7 (s.1 139 7 + 1)).1 139 7 = s.1 139 7 + 1 := ui_same
      have e9 : (ui (ui s 139 9 v) 139 7 (s.1 139 7 + 1)).1 139 9 = v := by rw [ui_ne (by decide), ui_same]
      refine ih _ (by rw [e3, e7]; omega) ⟨m0.tr (by repeat' (first | exact md.rf | assumption | refine md.ui ?_ ?_ | refine md.uj ?_ ?_ | exact Or.inr (by decide) | exact Or.inl (by decide))), ⟨by rw [e3]; exact r1, by rw [e6, e3]; exact r2, by rw [e7, e3]; omega⟩, by rw [e3]; exact x3, xs, by rw [e6]; exact x6, x7⟩ ?_ (by rw [e7]; omega) (fun i i0 i1 => ?_)
      · unfold NB
        rw [e6, e7, e9]
        refine ⟨by omega, by omega, fun _ => by omega, fun _ => ?_, fun _ => ?_, fun _ => ?_⟩
        · have := n3 (by omega); omega
        · have := n4 (by omega); omega
        · have := n5 (by omega); omega
      · rw [e7] at i1
        by_cases e : i = s.1 139 7
        · rw [e]; unfold DGT; omega
        · exact hd i i0 (by omega)
theorem e_goOn199 {Q : ST → Prop} (hQ : ∀ s', md gF [] s0 s' → RDC s' → RTK (F_X11_sign s0) (s0.1 139 3) (s0.1 139 7) s' → Q s') (hl : LTR (F_X11_sign s0 q)) (x : XAR s0 s q) (hs : SCN (F_X11_sign s0) LTR q (s.1 139 7)) (hw : s.1 139 7 - q ≤ 8 → s.2 139 10 = Int64.ofNat (c256 (F_X11_sign s0) q (s.1 139 7 - q).toNat)) : K_X11_goOn_199 s Q := by
  obtain ⟨m0, hr, x3, xs, x6, x7⟩ := id x
  obtain ⟨r1, r2, r3⟩ := id hr
  refine s_X11_goOn_199 ?_
  (repeat' (with_reducible first | refine ⟨?_, ?_⟩ | intro _))
  all_goals first | omega | skip
  · refine x_X11_isKept (fun hk => ?_) (fun hk => ?_)
    · refine fun _ => ⟨fun e => absurd e (by decide), fun _ => ?_⟩
      exact hQ _ (m0.tr (by repeat' (first | exact md.rf | assumption | refine md.ui ?_ ?_ | refine md.uj ?_ ?_ | exact Or.inr (by decide) | exact Or.inl (by decide)))) hr ⟨q, xs, x6, Or.inr (Or.inl ⟨x7, hl, _, hs, rfl, Or.inl ⟨by omega, hw (by omega), fun _ => ui_same, fun h => absurd hk h⟩⟩)⟩
    · refine fun _ => ⟨fun _ => ?_, fun e => absurd rfl e⟩
      exact hQ _ (m0.tr (by repeat' (first | exact md.rf | assumption | refine md.ui ?_ ?_ | refine md.uj ?_ ?_ | exact Or.inr (by decide) | exact Or.inl (by decide)))) hr ⟨q, xs, x6, Or.inr (Or.inl ⟨x7, hl, _, hs, rfl, Or.inl ⟨by omega, hw (by omega), fun h => absurd h hk, fun _ => ui_same⟩⟩)⟩
  · exact hQ _ (m0.tr (by repeat' (first | exact md.rf | assumption | refine md.ui ?_ ?_ | refine md.uj ?_ ?_ | exact Or.inr (by decide) | exact Or.inl (by decide)))) hr ⟨q, xs, x6, Or.inr (Or.inl ⟨x7, hl, _, hs, rfl, Or.inr ⟨by omega, ui_same⟩⟩)⟩
theorem e_goOn156 {Q : ST → Prop} (hQ : ∀ s', md gF [] s0 s' → RDC s' → RTK (F_X11_sign s0) (s0.1 139 3) (s0.1 139 7) s' → Q s') (hl : LTR (F_X11_sign s0 q)) : ∀ (m : Nat) (s : ST) (a : Int), s.1 139 7 - a ≤ (m : Int) → XAR s0 s q → SCN (F_X11_sign s0) LTR q (s.1 139 7) → (q ≤ a ∧ a ≤ s.1 139 7 ∧ a ≤ q + 8) → s.2 139 10 = Int64.ofNat (c256 (F_X11_sign s0) q (a - q).toNat) → K_X11_goOn_156 s a Q := by
  intro m
  induction m with
  | zero =>
    intro s a hm x hs ha hw
    refine s_X11_goOn_156 ?_
    obtain ⟨m0, hr, x3, xs, x6, x7⟩ := id x
    obtain ⟨r1, r2, r3⟩ := id hr
    (repeat' (with_reducible first | refine ⟨?_, ?_⟩ | intro _))
    all_goals first | omega | exact e_goOn199 hQ hl x hs (fun _ => by rw [show s.1 139 7 = a by omega]; exact hw)
  | succ m ih =>
    intro s a hm x hs ha hw
    obtain ⟨m0, hr, x3, xs, x6, x7⟩ := id x
    obtain ⟨r1, r2, r3⟩ := id hr
    have hsg := rs_md m0 a
    have hz := rs_r s0 a
    refine s_X11_goOn_156 ?_
    rw [hsg]
    (repeat' (with_reducible first | refine ⟨?_, ?_⟩ | intro _))
    all_goals first | omega | skip
    · exact e_goOn199 hQ hl x hs (fun _ => by rw [show s.1 139 7 = a by omega]; exact hw)
    · exact e_goOn199 hQ hl x hs (fun _ => by rw [show s.1 139 7 = a by omega]; exact hw)
    · refine ih _ _ (by show s.1 139 7 - (a + 1) ≤ _; omega) ⟨m0.tr (by repeat' (first | exact md.rf | assumption | refine md.ui ?_ ?_ | refine md.uj ?_ ?_ | exact Or.inr (by decide) | exact Or.inl (by decide))), hr, x3, xs, x6, x7⟩ hs (by show q ≤ a + 1 ∧ a + 1 ≤ s.1 139 7 ∧ a + 1 ≤ q + 8; omega) ?_
      rw [uj_same, hw, show (a + 1 - q).toNat = (a - q).toNat + 1 by omega]
      show _ = Int64.ofNat (256 * c256 (F_X11_sign s0) q (a - q).toNat + (F_X11_sign s0 (q + ((a - q).toNat : Int))).toNat)
      rw [show q + ((a - q).toNat : Int) = a by omega, ← w256_step _ _ (by omega), show (((F_X11_sign s0 a).toNat : Nat) : Int) = F_X11_sign s0 a by omega]
theorem e_goOn119 {Q : ST → Prop} (hQ : ∀ s', md gF [] s0 s' → RDC s' → RTK (F_X11_sign s0) (s0.1 139 3) (s0.1 139 7) s' → Q s') (hl : LTR (F_X11_sign s0 q)) : ∀ (m : Nat) (s : ST), s.1 139 3 - s.1 139 7 = (m : Int) → XAR s0 s q → q ≤ s.1 139 7 → (∀ i, q ≤ i → i < s.1 139 7 → LTR (F_X11_sign s0 i)) → K_X11_goOn_119 s Q := by
  intro m
  induction m with
  | zero =>
    intro s hm x h7 hd
    obtain ⟨m0, hr, x3, xs, x6, x7⟩ := id x
    obtain ⟨r1, r2, r3⟩ := id hr
    have hsg := rs_md m0 (s.1 139 7)
    have hz := rs_r s0 (s.1 139 7)
    refine s_X11_goOn_119 ?_
    rw [hsg, x6]
    (repeat' (with_reducible first | refine ⟨?_, ?_⟩ | intro _))
    all_goals first | omega | exact P_sign hr r3.1 | skip
    refine e_goOn156 hQ hl 1600 _ q (by show s.1 139 7 - q ≤ 1600; omega) ⟨m0.tr (by repeat' (first | exact md.rf | assumption | refine md.ui ?_ ?_ | refine md.uj ?_ ?_ | exact Or.inr (by decide) | exact Or.inl (by decide))), hr, x3, xs, x6, x7⟩ (show SCN (F_X11_sign s0) LTR q (s.1 139 7) from ⟨h7, hd, by unfold LTR; omega⟩) (by show q ≤ q ∧ q ≤ s.1 139 7 ∧ q ≤ q + 8; omega) ?_
    rw [uj_same, show (q - q).toNat = 0 by omega]; rfl
  | succ m ih =>
    intro s hm x h7 hd
    obtain ⟨m0, hr, x3, xs, x6, x7⟩ := id x
    obtain ⟨r1, r2, r3⟩ := id hr
    have hsg := rs_md m0 (s.1 139 7)
    have hz := rs_r s0 (s.1 139 7)
    refine s_X11_goOn_119 ?_
    rw [hsg, x6]
    (repeat' (with_reducible first | refine ⟨?_, ?_⟩ | intro _))
    all_goals first | omega | exact P_sign hr r3.1 | skip
    · refine e_goOn156 hQ hl 1600 _ q (by show s.1 139 7 - q ≤ 1600; omega) ⟨m0.tr (by repeat' (first | exact md.rf | assumption | refine md.ui ?_ ?_ | refine md.uj ?_ ?_ | exact Or.inr (by decide) | exact Or.inl (by decide))), hr, x3, xs, x6, x7⟩ (show SCN (F_X11_sign s0) LTR q (s.1 139 7) from ⟨h7, hd, by unfold LTR; omega⟩) (by show q ≤ q ∧ q ≤ s.1 139 7 ∧ q ≤ q + 8; omega) ?_
      rw [uj_same, show (q - q).toNat = 0 by omega]; rfl
    · have e3 : (ui s 139 7 (s.1 139 7 + 1)).1 139 3 = s.1 139 3 := ui_ne (by decide)
      have e6 : (ui s 139 7 (s.1 139 7 + 1)).1 139 6 = s.1 139 6 := ui_ne (by decide)
      have e7 : (ui s 139 7 (s.1 139 7 + 1)).1 139 7 = s.1 139 7 + 1 := ui_same
      refine ih _ (by rw [e3, e7]; omega) ⟨m0.tr (by repeat' (first | exact md.rf | assumption | refine md.ui ?_ ?_ | refine md.uj ?_ ?_ | exact Or.inr (by decide) | exact Or.inl (by decide))), ⟨by rw [e3]; exact r1, by rw [e6, e3]; exact r2, by rw [e7, e3]; omega⟩, by rw [e3]; exact x3, xs, by rw [e6]; exact x6, x7⟩ (by rw [e7]; omega) (fun i i0 i1 => ?_)
      rw [e7] at i1
      by_cases e : i = s.1 139 7
      · rw [e]; unfold LTR; omega
      · exact hd i i0 (by omega)
theorem e_X11_goOn {Q : ST → Prop} (r1 : 0 ≤ s0.1 139 3 ∧ s0.1 139 3 ≤ 1600) (r3 : 0 ≤ s0.1 139 7 ∧ s0.1 139 7 ≤ s0.1 139 3) (hQ : ∀ s', md gF [] s0 s' → RDC s' → RTK (F_X11_sign s0) (s0.1 139 3) (s0.1 139 7) s' → Q s') : C_X11_goOn s0 Q := by
  have k58 : ∀ s, md gF [] s0 s → RDC s → s.1 139 3 = s0.1 139 3 → SCN (F_X11_sign s0) BLK (s0.1 139 7) (s.1 139 6) → K_X11_goOn_58 s Q := by
    intro s m0 hr x3 xs
    obtain ⟨r1, r2, r3⟩ := id hr
    have hsg := rs_md m0 (s.1 139 6)
    have hz := rs_r s0 (s.1 139 6)
    refine s_X11_goOn_58 ?_
    rw [hsg]
    (repeat' (with_reducible first | refine ⟨?_, ?_⟩ | intro _))
    all_goals first | omega | exact P_sign hr r2.1 | skip
    · refine hQ _ (m0.tr (by repeat' (first | exact md.rf | assumption | refine md.ui ?_ ?_ | refine md.uj ?_ ?_ | exact Or.inr (by decide) | exact Or.inl (by decide)))) ⟨r1, r2, by rw [ui_ne (by decide), ui_same]; show 0 ≤ s.1 139 6 + 1 ∧ s.1 139 6 + 1 ≤ s.1 139 3; omega⟩ ⟨s.1 139 6, xs, rfl, Or.inr (Or.inr (Or.inr (Or.inr ⟨⟨by omega, by unfold LTR; omega, by unfold DGT; omega, by omega⟩, ui_same, by rw [ui_ne (by decide), ui_same]⟩)))⟩
    · refine hQ _ (m0.tr (by repeat' (first | exact md.rf | assumption | refine md.ui ?_ ?_ | refine md.uj ?_ ?_ | exact Or.inr (by decide) | exact Or.inl (by decide)))) ⟨r1, r2, by rw [ui_ne (by decide), ui_same]; show 0 ≤ s.1 139 6 + 1 ∧ s.1 139 6 + 1 ≤ s.1 139 3; omega⟩ ⟨s.1 139 6, xs, rfl, Or.inr (Or.inr (Or.inr (Or.inl ⟨by omega, by omega, ui_same, by rw [ui_ne (by decide), ui_same]⟩)))⟩
    · have e3 : (ui (ui (ui s 139 7 (s.1 139 6 + 1)) 139 9 0) 139 7 (s.1 139 6)).1 139 3 = s.1 139 3 := by rw [ui_ne (by decide), ui_ne (by decide), ui_ne (by decide)]
      have e6 : (ui (ui (ui s 139 7 (s.1 139 6 + 1)) 139 9 0) 139 7 (s.1 139 6)).1 139 6 = s.1 139 6 := by rw [ui_ne (by decide), ui_ne (by decide), ui_ne (by decide)]
      have e7 : (ui (ui (ui s 139 7 (s.1 139 6 + 1)) 139 9 0) 139 7 (s.1 139 6)).1 139 7 = s.1 139 6 := ui_same
      have e9 : (ui (ui (ui s 139 7 (s.1 139 6 + 1)) 139 9 0) 139 7 (s.1 139 6)).1 139 9 = 0 := by rw [ui_ne (by decide), ui_same]
      refine e_goOn259 (q := s.1 139 6) hQ (by unfold DGT; omega) (s.1 139 3 - s.1 139 6).toNat _ (by rw [e3, e7]; omega) ⟨m0.tr (by repeat' (first | exact md.rf | assumption | refine md.ui ?_ ?_ | refine md.uj ?_ ?_ | exact Or.inr (by decide) | exact Or.inl (by decide))), ⟨by rw [e3]; exact r1, by rw [e6, e3]; exact r2, by rw [e7, e3]; omega⟩, by rw [e3]; exact x3, xs, e6, by omega⟩ ?_ (by rw [e7]; omega) (fun i i0 i1 => by rw [e7] at i1; omega)
      unfold NB
      rw [e6, e7, e9]
      exact ⟨by omega, by omega, fun _ => by omega, fun _ => by omega, fun _ => by omega, fun _ => by omega⟩
    · have e3 : (ui s 139 7 (s.1 139 6 + 1)).1 139 3 = s.1 139 3 := ui_ne (by decide)
      have e6 : (ui s 139 7 (s.1 139 6 + 1)).1 139 6 = s.1 139 6 := ui_ne (by decide)
      have e7 : (ui s 139 7 (s.1 139 6 + 1)).1 139 7 = s.1 139 6 + 1 := ui_same
      refine e_goOn119 (q := s.1 139 6) hQ (by unfold LTR; omega) (s.1 139 3 - (s.1 139 6 + 1)).toNat _ (by rw [e3, e7]; omega) ⟨m0.tr (by repeat' (first | exact md.rf | assumption | refine md.ui ?_ ?_ | refine md.uj ?_ ?_ | exact Or.inr (by decide) | exact Or.inl (by decide))), ⟨by rw [e3]; exact r1, by rw [e6, e3]; exact r2, by rw [e7, e3]; omega⟩, by rw [e3]; exact x3, xs, e6, by omega⟩ (by rw [e7]; omega) (fun i i0 i1 => ?_)
      rw [e7] at i1
      rw [show i = s.1 139 6 by omega]; unfold LTR; omega
    · have e36 : s.1 139 6 = s.1 139 3 := by omega
      refine hQ _ (m0.tr (by repeat' (first | exact md.rf | assumption | refine md.ui ?_ ?_ | refine md.uj ?_ ?_ | exact Or.inr (by decide) | exact Or.inl (by decide)))) ⟨r1, by rw [ui_ne (by decide), ui_same]; show 0 ≤ s.1 139 3 ∧ s.1 139 3 ≤ s.1 139 3; omega, by rw [ui_same]; show 0 ≤ s.1 139 3 ∧ s.1 139 3 ≤ s.1 139 3; omega⟩ ⟨s.1 139 6, xs, by rw [ui_ne (by decide), ui_same, e36], Or.inl ⟨by omega, by rw [ui_ne (by decide), ui_ne (by decide), ui_same], by rw [ui_same, e36]⟩⟩
  have k8 : ∀ (m : Nat) (s : ST), s.1 139 3 - s.1 139 6 = (m : Int) → md gF [] s0 s → RDC s → s.1 139 3 = s0.1 139 3 → (s0.1 139 7 ≤ s.1 139 6 ∧ ∀ i, s0.1 139 7 ≤ i → i < s.1 139 6 → BLK (F_X11_sign s0 i)) → K_X11_goOn_8 s Q := by
    intro m
    induction m with
    | zero =>
      intro s hm m0 hr x3 hb
      have hz := (rs_r s0 (s.1 139 6)).2.2 (by omega)
      refine s_X11_goOn_8 ?_
      (repeat' (with_reducible first | refine ⟨?_, ?_⟩ | intro _))
      all_goals first | omega | exact k58 s m0 hr x3 ⟨hb.1, hb.2, by rw [hz]; unfold BLK; omega⟩
    | succ m ih =>
      intro s hm m0 hr x3 hb
      obtain ⟨r1, r2, r3⟩ := id hr
      have e3 : (ui s 139 6 (s.1 139 6 + 1)).1 139 3 = s.1 139 3 := ui_ne (by decide)
      have e6 : (ui s 139 6 (s.1 139 6 + 1)).1 139 6 = s.1 139 6 + 1 := ui_same
      have e7 : (ui s 139 6 (s.1 139 6 + 1)).1 139 7 = s.1 139 7 := ui_ne (by decide)
      have hsg := rs_md m0 (s.1 139 6)
      have hz := rs_r s0 (s.1 139 6)
      have nx : BLK (F_X11_sign s0 (s.1 139 6)) → K_X11_goOn_8 (ui s 139 6 (s.1 139 6 + 1)) Q := fun hb6 => ih _ (by rw [e3, e6]; omega) (m0.tr (by repeat' (first | exact md.rf | assumption | refine md.ui ?_ ?_ | refine md.uj ?_ ?_ | exact Or.inr (by decide) | exact Or.inl (by decide)))) ⟨by rw [e3]; exact r1, by rw [e6, e3]; omega, by rw [e7, e3]; exact r3⟩ (by rw [e3]; exact x3) ⟨by rw [e6]; omega, fun i i0 i1 => by
        rw [e6] at i1
        by_cases e : i = s.1 139 6
        · rw [e]; exact hb6
        · exact hb.2 i i0 (by omega)⟩
      refine s_X11_goOn_8 ?_
      rw [hsg]
      (repeat' (with_reducible first | refine ⟨?_, ?_⟩ | intro _))
      all_goals first | omega | exact P_sign hr r2.1 | exact nx (Or.inl (by omega)) | exact nx (Or.inr (by omega)) | exact k58 s m0 hr x3 ⟨hb.1, hb.2, by unfold BLK; omega⟩
  have e3 : (ui s0 139 6 (s0.1 139 7)).1 139 3 = s0.1 139 3 := ui_ne (by decide)
  have e6 : (ui s0 139 6 (s0.1 139 7)).1 139 6 = s0.1 139 7 := ui_same
  have e7 : (ui s0 139 6 (s0.1 139 7)).1 139 7 = s0.1 139 7 := ui_ne (by decide)
  exact s_X11_goOn fun _ => k8 (s0.1 139 3 - s0.1 139 7).toNat _ (by rw [e3, e6]; omega) (by repeat' (first | exact md.rf | assumption | refine md.ui ?_ ?_ | refine md.uj ?_ ?_ | exact Or.inr (by decide) | exact Or.inl (by decide))) ⟨by rw [e3]; exact r1, by rw [e6, e3]; exact r3, by rw [e7, e3]; exact r3⟩ e3 ⟨by rw [e6]; omega, fun i i0 i1 => by rw [e6] at i1; omega⟩
end RTOK
