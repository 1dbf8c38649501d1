/-! THE REFERENCE: from a whole program to a def more -/
theorem RP.start {s : ST} {b : Int} (w : WF s b) (hD : s.1 143 b ≤ 7) : RP (ui s 145 (8 * b + s.1 143 b) (s.1 142 b)) b 0 (s.1 142 b) (s.1 142 b) (s.1 143 b) (s.1 144 b) := by
  obtain ⟨t1, t2, t3, t4, t5, t6, hb⟩ := id w
  obtain ⟨d1, d2, d3, d4, d5, d6⟩ := id t2
  have eS : ∀ a x, a ≠ 145 → (ui s 145 (8 * b + s.1 143 b) (s.1 142 b)).1 a x = s.1 a x := fun a x h => ui_cell h
  have e46 : bso (ui s 145 (8 * b + s.1 143 b) (s.1 142 b)) b = bso s b := funext fun x => eS 146 _ (by decide)
  have e50 : ben (ui s 145 (8 * b + s.1 143 b) (s.1 142 b)) b = ben s b := funext fun x => eS 150 _ (by decide)
  have e51 : bas (ui s 145 (8 * b + s.1 143 b) (s.1 142 b)) b = bas s b := funext fun x => eS 151 _ (by decide)
  have e53 : bbi (ui s 145 (8 * b + s.1 143 b) (s.1 142 b)) b = bbi s b := funext fun x => eS 153 _ (by decide)
  have e54 : bkA (ui s 145 (8 * b + s.1 143 b) (s.1 142 b)) b = bkA s b := funext fun x => eS 154 _ (by decide)
  have e55 : bkL (ui s 145 (8 * b + s.1 143 b) (s.1 142 b)) b = bkL s b := funext fun x => eS 155 _ (by decide)
  have e49 : bdO (ui s 145 (8 * b + s.1 143 b) (s.1 142 b)) b = bdO s b := funext fun x => eS 149 _ (by decide)
  have e52 : bkd (ui s 145 (8 * b + s.1 143 b) (s.1 142 b)) b = bkd s b := funext fun x => funext fun k => eS 152 _ (by decide)
  have e56 : bkC (ui s 145 (8 * b + s.1 143 b) (s.1 142 b)) b = bkC s b := funext fun x => eS 156 _ (by decide)
  have e45 : ∀ d, d ≠ s.1 143 b → bdR (ui s 145 (8 * b + s.1 143 b) (s.1 142 b)) b d = bdR s b d := fun d hd => ui_ne (by omega)
  have e45n : bdR (ui s 145 (8 * b + s.1 143 b) (s.1 142 b)) b (s.1 143 b) = s.1 142 b := ui_same
  generalize ui s 145 (8 * b + s.1 143 b) (s.1 142 b) = s' at *
  refine ⟨⟨by omega, by omega, t5.1, by omega, d3, fun h => ?_, fun d d0 d1 => ?_, fun d d0 d1 => ?_, e45n, fun k k0 k1 => ?_⟩, fun p p0 p1 => ?_, fun p p0 p1 _ => ?_, ⟨fun h => absurd h (by omega), fun i i0 i1 => absurd i1 (by omega)⟩, fun p i _ _ _ i0 i1 => absurd i1 (by omega)⟩
  · rw [e45 _ (by omega), e45 _ (by omega), e50]; exact d4 h
  · rw [e45 _ (by omega)]; exact d5 d d0 d1
  · rw [e45 _ (by omega), e45 _ (by omega), e50]; exact d6 d d0 d1
  · rw [e56]; exact t5.2.1 k k0 k1
  · obtain ⟨n1, n2⟩ := t4 p p0 p1
    have hd := t3 p p0 p1
    unfold NMC
    rw [e46, e53, e49, e50, e52, e54, e55, e56, e45 _ (by omega)]
    refine ⟨(t1 p p0 p1).1, fun h2 => ⟨fun hl => ?_, (n1 h2).2⟩, n2, fun _ => hd, fun h => absurd p1 (by omega), fun h16 => t5.2.2 p p0 p1 h16⟩
    obtain ⟨⟨x1, x2, x3⟩, x4⟩ := (n1 h2).1 hl
    refine ⟨⟨x1, x2, Or.inr x3⟩, x4.imp id fun ⟨y1, y2⟩ => ⟨⟨y1, ?_⟩, fun i i0 i1 => absurd i1 (by omega)⟩⟩
    have := ((t1 _ x1 (show bbi s b p < s.1 142 b by omega)).2.2.2.2.2.1 (by rw [y1]; decide)).1
    omega
  · constructor
    · unfold T1p
      rw [e46, e50, e52]
      exact ⟨t1 p p0 p1, fun k k0 k1 => by have := t1.kid p0 p1 k0 k1; exact ⟨this.1, this.2.1, this.2.2.1⟩⟩
    · unfold DNp
      have hx : exw (bso s' b) (bbi s' b) (bdR s' b) (bas s' b) (bkd s' b) p = exw (bso s b) (bbi s b) (bdR s b) (bas s b) (bkd s b) p := by
        refine exw_congr (by rw [e46]) fun h2 => ⟨by rw [e53], fun hl => ⟨by rw [e46], fun _ => ⟨by rw [e52], by rw [e51]⟩⟩, fun hg => ⟨e45 _ ?_, by rw [e51]⟩⟩
        have := ((t4 p p0 p1).1 h2).2 hg
        have := t3 p p0 p1
        omega
      rw [hx, e46, e51, e52]
      exact t6 p p0 p1
theorem RP.keep {fs : List (Nat × Int)} {cs : List Nat} {s s' : ST} {b m n R nD nK : Int} (h : RP s b m n R nD nK) (hm : md fs cs s s') (h1 : (fs.all fun q => decide (q.1 ∉ bankCells) && decide (q.1 ≠ 159) && decide (q.1 ≠ 160)) = true) (h2 : (cs.all fun a => decide (a ∉ bankCells) && decide (a ≠ 159) && decide (a ≠ 160)) = true) : RP s' b m n R nD nK := by
  have k : ∀ a, a ∈ bankCells ∨ a = 159 ∨ a = 160 → s'.1 a = s.1 a := by
    intro a ha
    funext x
    refine (hm a x (fun q => ?_) (fun q => ?_)).1
    · have := List.all_eq_true.mp h1 _ q
      rw [Bool.and_eq_true, Bool.and_eq_true] at this
      rcases ha with h | h | h
      · exact of_decide_eq_true this.1.1 h
      · exact of_decide_eq_true this.1.2 h
      · exact of_decide_eq_true this.2 h
    · have := List.all_eq_true.mp h2 _ q
      rw [Bool.and_eq_true, Bool.and_eq_true] at this
      rcases ha with h | h | h
      · exact of_decide_eq_true this.1.1 h
      · exact of_decide_eq_true this.1.2 h
      · exact of_decide_eq_true this.2 h
  have e46 : bso s' b = bso s b := by unfold bso; rw [k 146 (by decide)]
  have e50 : ben s' b = ben s b := by unfold ben; rw [k 150 (by decide)]
  have e51 : bas s' b = bas s b := by unfold bas; rw [k 151 (by decide)]
  have e53 : bbi s' b = bbi s b := by unfold bbi; rw [k 153 (by decide)]
  have e54 : bkA s' b = bkA s b := by unfold bkA; rw [k 154 (by decide)]
  have e55 : bkL s' b = bkL s b := by unfold bkL; rw [k 155 (by decide)]
  have e49 : bdO s' b = bdO s b := by unfold bdO; rw [k 149 (by decide)]
  have e52 : bkd s' b = bkd s b := by unfold bkd; rw [k 152 (by decide)]
  have e45 : bdR s' b = bdR s b := by unfold bdR; rw [k 145 (by decide)]
  have e56 : bkC s' b = bkC s b := by unfold bkC; rw [k 156 (by decide)]
  have e59 := k 159 (Or.inr (Or.inl rfl))
  have e60 := k 160 (Or.inr (Or.inr rfl))
  unfold RP Ra Rb Rc Rd Re Rd1 NMC T1p DNp OPN nxt at *
  rw [e46, e50, e51, e53, e54, e55, e49, e52, e45, e56, e59, e60]
  exact h
theorem RP.done {s : ST} {b n R nD nK : Int} (h : RP s b 0 n R nD nK) (hR : R < n) (he : ben s b R = n - 1) : T1 (bso s b) (ben s b) (bkd s b) n ∧ T2 (bdR s b) (ben s b) (nD + 1) n ∧ T3 (bdO s b) (bdR s b) (ben s b) (nD + 1) n ∧ T4 (bso s b) (ben s b) (bbi s b) (bdO s b) (bkd s b) n ∧ T5 (bso s b) (bkA s b) (bkL s b) (bkC s b) n nK ∧ T6 (bso s b) (bbi s b) (bdR s b) (bas s b) (bkd s b) n := by
  obtain ⟨⟨a1, a2, a3, a4, a5, a6, a7, a8, a9, a10⟩, rb, rc, rd, re⟩ := h
  have no : ∀ p, ¬ OPN s 0 p := fun p ⟨i, ⟨i0, i1⟩, _⟩ => absurd i1 (by omega)
  have t1 : T1 (bso s b) (ben s b) (bkd s b) n := fun p p0 p1 => (rc p p0 p1 (no p)).1.1
  refine ⟨t1, ⟨by omega, by omega, fun h => by omega, fun _ => ?_, fun d d0 d1 => ?_, fun d d0 d1 => ?_⟩, fun p p0 p1 => ?_, fun p p0 p1 => ?_, ⟨a3, a10, fun p p0 p1 h16 => (rb p p0 p1).2.2.2.2.2 h16⟩, fun p p0 p1 => (rc p p0 p1 (no p)).2⟩
  · rw [show nD + 1 - 1 = nD by omega, a9]
    by_cases c : nD = 0
    · rw [c] at a9
      exact ⟨by rw [a9]; exact a5 c, he⟩
    · exact ⟨(a6 (by omega)).1, he⟩
  · by_cases c : d = nD
    · rw [c, a9]; omega
    · have := a7 d d0 (by omega); omega
  · by_cases c : d + 1 = nD
    · rw [c, a9]
      have := (a6 (by omega)).2
      rw [show nD - 1 = d by omega] at this
      omega
    · exact a8 d d0 (by omega)
  · obtain ⟨b1, b2, b3, b4, b5, b6⟩ := rb p p0 p1
    by_cases c : p < R
    · obtain ⟨c1, c2, c3⟩ := b4 c
      exact ⟨by omega, c2, c3⟩
    · rw [b5 (by omega), a9, he]; omega
  · obtain ⟨b1, b2, b3, b4, b5, b6⟩ := rb p p0 p1
    refine ⟨fun h2 => ⟨fun hl => ?_, (b2 h2).2⟩, b3⟩
    obtain ⟨⟨x1, x2, x3⟩, x4⟩ := (b2 h2).1 hl
    refine ⟨⟨x1, x2, x3.resolve_left (no _)⟩, x4.imp id fun ⟨y1, y2⟩ => ⟨y1.1, ?_⟩⟩
    have := ((t1 _ x1 (show bbi s b p < n by omega)).2.2.2.2.2.1 (by rw [y1.1]; decide)).1
    omega
/-- which binder or def a NAME means -/
theorem c_X11_meant {s : ST} {b m nD : Int} {Q : ST → Int → Prop} (a4 : 0 ≤ m ∧ m ≤ 21) (a2 : 0 ≤ nD ∧ nD ≤ 7) (hop : ∀ i, 0 ≤ i → i < m → 0 ≤ s.1 159 i ∧ s.1 159 i < 40) (hb : 0 ≤ b ∧ b ≤ 1) (h29 : s.1 139 29 = b) (h32 : s.1 139 32 = m) (h43 : s.1 143 b = nD) (hQ : ∀ v, (v = -1 ∨ (∃ i, (0 ≤ i ∧ i < m) ∧ v = s.1 159 i ∧ (s.1 146 (40 * b + s.1 159 i) = 3 ∨ s.1 146 (40 * b + s.1 159 i) = 4 ∧ s.1 160 i = 1)) ∨ (100 ≤ v ∧ v < 100 + nD)) → Q s v) : C_X11_meant s Q := by
  have k95 : ∀ (k : Nat) (a : Int), a + 1 = (k : Int) → a < nD → K_X11_meant_95 s a Q := by
    intro k
    induction k with
    | zero =>
      intro a ha _
      refine s_X11_meant_95 ?_
      (repeat' (with_reducible first | refine ⟨?_, ?_⟩ | intro _))
      all_goals first | omega | exact hQ _ (Or.inl rfl)
    | succ k ih =>
      intro a ha h1
      refine s_X11_meant_95 ?_
      rw [h29]
      (repeat' (with_reducible first | refine ⟨?_, ?_⟩ | intro _))
      all_goals first | omega | exact hQ _ (Or.inl rfl) | skip
      · exact ih _ (by omega) (by omega)
      · exact hQ _ (Or.inr (Or.inr (by omega)))
  have k7 : ∀ (k : Nat) (a : Int), a + 1 = (k : Int) → a < m → K_X11_meant_7 s a Q := by
    intro k
    induction k with
    | zero =>
      intro a ha _
      refine s_X11_meant_7 ?_
      rw [h29, h43]
      (repeat' (with_reducible first | refine ⟨?_, ?_⟩ | intro _))
      all_goals first | omega | exact k95 nD.toNat _ (by omega) (by omega)
    | succ k ih =>
      intro a ha h1
      have hi := hop a (by omega) h1
      have k70 : (s.1 146 (40 * b + s.1 159 a) = 3 ∨ s.1 146 (40 * b + s.1 159 a) = 4 ∧ s.1 160 a = 1) → K_X11_meant_70 s a Q := fun hh => s_X11_meant_70 fun _ _ => ⟨by omega, hQ _ (Or.inr (Or.inl ⟨a, ⟨by omega, h1⟩, rfl, hh⟩))⟩
      refine s_X11_meant_7 ?_
      rw [h29]
      (repeat' (with_reducible first | refine ⟨?_, ?_⟩ | intro _))
      all_goals first | omega | exact ih _ (by omega) (by omega) | skip
      · exact k70 (Or.inl (by assumption))
      · exact k70 (Or.inr ⟨by assumption, by assumption⟩)
  refine s_X11_meant ?_
  rw [h32]
  (repeat' (with_reducible first | refine ⟨?_, ?_⟩ | intro _))
  all_goals first | omega | exact k7 m.toNat _ (by omega) (by omega)
