/-! THE REFERENCE: change() -/
/-- nothing of the other banks is changed by the walk -/
def FP (s s1 : ST) : Prop := md [] [142, 143, 144, 145, 146, 147, 148, 149, 153, 154, 155, 156, 157, 158, 182, 183] s s1 ∧ (∀ x, x ≠ 2 → s1.1 142 x = s.1 142 x ∧ s1.1 143 x = s.1 143 x ∧ s1.1 144 x = s.1 144 x) ∧ (∀ z, z < 16 ∨ 24 ≤ z → s1.1 145 z = s.1 145 z ∧ s1.2 157 z = s.2 157 z) ∧ (∀ z, z < 40 ∨ 60 ≤ z → s1.1 156 z = s.1 156 z) ∧ (∀ z, z < 80 ∨ 120 ≤ z → cell6 s s1 z)
theorem FP.rf {s : ST} : FP s s := ⟨md.rf, fun _ _ => ⟨rfl, rfl, rfl⟩, fun _ _ => ⟨rfl, rfl⟩, fun _ _ => rfl, fun _ _ => ⟨rfl, rfl, rfl, rfl, rfl, rfl⟩⟩
theorem FP.tr {s s1 s2 : ST} (h : FP s s1) (k : FP s1 s2) : FP s s2 := by
  obtain ⟨a1, a2, a3, a4, a5⟩ := h
  obtain ⟨b1, b2, b3, b4, b5⟩ := k
  exact ⟨a1.tr b1, fun x hx => ⟨(b2 x hx).1.trans (a2 x hx).1, (b2 x hx).2.1.trans (a2 x hx).2.1, (b2 x hx).2.2.trans (a2 x hx).2.2⟩, fun z hz => ⟨(b3 z hz).1.trans (a3 z hz).1, (b3 z hz).2.trans (a3 z hz).2⟩, fun z hz => (b4 z hz).trans (a4 z hz), fun z hz => (a5 z hz).tr (b5 z hz)⟩
theorem TW.fp {s s' : ST} {q e o n : Int} (h : TW s s' q e o n) (o0 : 0 ≤ o) : FP s s' := by
  obtain ⟨a1, a2, a3, a4, a5⟩ := h
  exact ⟨a1.mono (by decide) (by decide), fun x hx => ⟨a2 x hx, a1.c 143 (by decide) (by decide) x, a1.c 144 (by decide) (by decide) x⟩, fun z _ => ⟨a1.c 145 (by decide) (by decide) z, a1.cj 157 (by decide) (by decide) z⟩, fun z _ => a1.c 156 (by decide) (by decide) z, fun z hz => a3 z (by omega)⟩
theorem SC.fp {s0 s s' : ST} {b c w its : Int} (b1 : b ≤ 1) (h : SC s0 b c w its s) (t : FP s s') : SC s0 b c w its s' := by
  obtain ⟨h1, h2, h3, h4, h5⟩ := h
  obtain ⟨m, t2, t3, t4, t5⟩ := t
  refine ⟨by rw [m.f 139 28 (by decide) (by decide)]; exact h1, fun hc => by rw [m.c 187 (by decide) (by decide)]; exact h2 hc, fun z z0 z1 => by rw [m.c 152 (by decide) (by decide)]; exact h3 z z0 z1, fun z z0 z1 => by rw [m.c 150 (by decide) (by decide)]; exact h4 z z0 z1, fun z z0 z1 => ?_⟩
  · obtain ⟨a1, a2, a3, a4, a5, _⟩ := t5 z (Or.inl (by omega))
    rw [a1, a2, a3, a4, a5]
    exact h5 z z0 z1
/-- d defs have been written -/
def DEFI (s0 sS : ST) (b p c w its : Int) (s : ST) (d : Int) : Prop := FP sS s ∧ SC s0 b c w its s ∧ s.1 142 2 = Od s0 b p c d ∧ s.1 143 2 = s0.1 143 b ∧ s.1 144 2 = s0.1 144 b ∧ (∀ k, 0 ≤ k → k < 20 → s.1 156 (40 + k) = s0.1 156 (20 * b + k)) ∧ (∀ e, 0 ≤ e → e < d → s.1 145 (16 + e) = Od s0 b p c e) ∧ (∀ e, 0 ≤ e → e < d → PO s0 b p c its s (s0.1 145 (8 * b + e)) (Od s0 b p c e)) ∧ (∀ r, 0 ≤ r → r < 40 → (∀ e, 0 ≤ e → e < d → ¬ (s0.1 145 (8 * b + e) ≤ r ∧ r ≤ s0.1 150 (40 * b + s0.1 145 (8 * b + e)))) → s.1 182 r = -1)
theorem k_change79 {s0 sS : ST} {b p c w its : Int} {Q : ST → Prop} (cx : CX s0 b p c w its) (hS : WQ s0 b sS b) (hk : ∀ s, DEFI s0 sS b p c w its s (s0.1 143 b) → K_X11_change_262 s p c 0 Q) : ∀ (m : Nat) (s : ST) (d : Int), s0.1 143 b - d = (m : Int) → 0 ≤ d → DEFI s0 sS b p c w its s d → K_X11_change_79 s p c w d Q := by
  have W := cx.2.1
  have nn := W.nn
  have b01 := cx.1
  intro m
  induction m with
  | zero =>
    intro s d hm d0 h
    obtain rfl : d = s0.1 143 b := by omega
    have h28 := h.2.1.1
    have h143 := (h.1.2.1 b (by omega)).2.1.trans hS.1.2.1
    refine s_X11_change_79 ?_
    rw [h28]
    (repeat' (with_reducible first | refine ⟨?_, ?_⟩ | intro _))
    all_goals first | omega | exact hk s h
  | succ m ih =>
    intro s d hm d0 h
    obtain ⟨f1, sc, h142, h143, h144, h156, h145, hpo, hno⟩ := id h
    have h28 := sc.1
    have e143 := (f1.2.1 b (by omega)).2.1.trans hS.1.2.1
    have hr := W.dR d0 (show d < s0.1 143 b by omega)
    have he := W.en hr.1 hr.2
    have hz := cx.nz_ge hr.1 hr.2
    have hle := Od_le cx d.toNat d (by omega) (by omega)
    have hend := Od_end cx d0 (show d < s0.1 143 b by omega)
    have e145 : s.1 145 (8 * b + d) = s0.1 145 (8 * b + d) := (f1.2.2.1 (8 * b + d) (by omega)).1.trans (hS.2.1 d d0 (by omega))
    have rd : (ui (uj s 157 (16 + d) (s.2 157 (8 * b + d))) 145 (16 + d) (s.1 142 2)).1 145 (8 * b + d) = s0.1 145 (8 * b + d) := by rw [ui_ne (by omega), uj_i]; exact e145
    refine s_X11_change_79 ?_
    rw [h28, rd]
    (repeat' (with_reducible first | refine ⟨?_, ?_⟩ | intro _))
    all_goals first | omega | skip
    have m1 : md [] [145, 157, 183] s (ui (ui (uj s 157 (16 + d) (s.2 157 (8 * b + d))) 145 (16 + d) (s.1 142 2)) 183 0 (s0.1 145 (8 * b + d))) := (by repeat' (first | exact md.rf | assumption | refine md.ui ?_ ?_ | refine md.uj ?_ ?_ | exact Or.inr (by decide) | exact Or.inl (by decide)))
    have n145 : (ui (ui (uj s 157 (16 + d) (s.2 157 (8 * b + d))) 145 (16 + d) (s.1 142 2)) 183 0 (s0.1 145 (8 * b + d))).1 145 (16 + d) = s.1 142 2 := by rw [ui_cell (by decide), ui_same]
    have o145 : ∀ z, z ≠ 16 + d → (ui (ui (uj s 157 (16 + d) (s.2 157 (8 * b + d))) 145 (16 + d) (s.1 142 2)) 183 0 (s0.1 145 (8 * b + d))).1 145 z = s.1 145 z := fun z hz => by rw [ui_cell (by decide), ui_ne hz]; rfl
    have o157 : ∀ z, z ≠ 16 + d → (ui (ui (uj s 157 (16 + d) (s.2 157 (8 * b + d))) 145 (16 + d) (s.1 142 2)) 183 0 (s0.1 145 (8 * b + d))).2 157 z = s.2 157 z := fun z hz => by rw [ui_j, ui_j, uj_ne hz]
    have n183 : (ui (ui (uj s 157 (16 + d) (s.2 157 (8 * b + d))) 145 (16 + d) (s.1 142 2)) 183 0 (s0.1 145 (8 * b + d))).1 183 0 = s0.1 145 (8 * b + d) := ui_same
    generalize (ui (ui (uj s 157 (16 + d) (s.2 157 (8 * b + d))) 145 (16 + d) (s.1 142 2)) 183 0 (s0.1 145 (8 * b + d))) = s1 at *
    have fp1 : FP s s1 := ⟨m1.mono (by decide) (by decide), fun x _ => ⟨m1.c 142 (by decide) (by decide) x, m1.c 143 (by decide) (by decide) x, m1.c 144 (by decide) (by decide) x⟩, fun z hz => ⟨o145 z (by omega), o157 z (by omega)⟩, fun z _ => m1.c 156 (by decide) (by decide) z, fun z _ => ⟨m1.c 146 (by decide) (by decide) z, m1.c 149 (by decide) (by decide) z, m1.c 153 (by decide) (by decide) z, m1.c 154 (by decide) (by decide) z, m1.c 155 (by decide) (by decide) z, m1.cj 158 (by decide) (by decide) z⟩⟩
    have sc1 := sc.fp b01.2 fp1
    refine trv cx (s0.1 150 (40 * b + s0.1 145 (8 * b + d)) - s0.1 145 (8 * b + d) + 1).toNat (s0.1 145 (8 * b + d)) (by omega) hr.1 hr.2 s1 1 (Od s0 b p c d) sc1 (by omega) (by omega) n183 (by rw [m1.c 142 (by decide) (by decide)]; exact h142) hle.1 (by omega) (fun r r0 r1 => ?_) (fun r r0 r1 r2 => ?_) (fun s2 tw sc2 po2 o2 => ?_)
    · rw [m1.c 182 (by decide) (by decide)]
      refine hno r (by omega) (by omega) (fun e e0 e1 hh => ?_)
      have := W.2.1.lt W.1 e0 e1 (show d < s0.1 143 b by omega)
      have e2 : bdR s0 b d = s0.1 145 (8 * b + d) := rfl
      have e3 : ben s0 b (bdR s0 b e) = s0.1 150 (40 * b + s0.1 145 (8 * b + e)) := rfl
      omega
    · have := W.sep r0 d0 (show d < s0.1 143 b by omega) r1
      omega
    · have fp2 := (f1.tr fp1).tr (tw.fp hle.1)
      refine s_X11_change_158 fun _ _ _ _ _ _ => ⟨fun _ => ⟨⟨by omega, by omega⟩, ?_⟩, fun h => absurd (by omega) h⟩
      have twm := tw.1
      have hsu := Od_succ (s0 := s0) (b := b) (p := p) (c := c) d0
      refine ih s2 (d + 1) (by omega) (by omega) ⟨fp2, sc2, by rw [o2, hsu], ?_, ?_, fun k k0 k1 => ?_, fun e e0 e1 => ?_, fun e e0 e1 => ?_, fun r r0 r1 hh => ?_⟩
      · rw [twm.c 143 (by decide) (by decide), m1.c 143 (by decide) (by decide)]; exact h143
      · rw [twm.c 144 (by decide) (by decide), m1.c 144 (by decide) (by decide)]; exact h144
      · rw [twm.c 156 (by decide) (by decide), m1.c 156 (by decide) (by decide)]; exact h156 k k0 k1
      · rw [twm.c 145 (by decide) (by decide)]
        by_cases q : e = d
        · rw [q, n145]; exact h142
        · rw [o145 _ (by omega)]; exact h145 e e0 (by omega)
      · by_cases q : e = d
        · rw [q]; exact po2
        · have hre := W.dR e0 (show e < s0.1 143 b by omega)
          have hee := W.en hre.1 hre.2
          have hlt : s0.1 150 (40 * b + s0.1 145 (8 * b + e)) < s0.1 145 (8 * b + d) := W.2.1.lt W.1 e0 (show e < d by omega) (show d < s0.1 143 b by omega)
          have hm := Od_mono cx (d - (e + 1)).toNat (e + 1) (by omega) (by omega)
          rw [show e + 1 + (((d - (e + 1)).toNat : Nat) : Int) = d by omega] at hm
          have hse := Od_succ (s0 := s0) (b := b) (p := p) (c := c) e0
          refine cx.keep hre.1 hre.2 (hpo e e0 (by omega)) (fun r r0 r1 => ?_) (fun r r0 r1 => ?_) (fun x x0 x1 => ?_)
          · rw [tw.2.2.2.1 r (by omega), m1.c 182 (by decide) (by decide)]
          · rcases cx.nb_ok (q := r) (by omega) (by omega) with g | g | g
            · unfold nv; rw [if_pos (Or.inl g), if_pos (Or.inl g)]
            · unfold nv; rw [if_pos (Or.inr g), if_pos (Or.inr g)]
            · unfold nv
              rw [tw.2.2.2.1 (nb s0 b p c its r) (by omega), m1.c 182 (by decide) (by decide)]
          · have c1 := tw.2.2.1 (80 + x) (Or.inl (by omega))
            refine cell6.tr ⟨m1.c 146 (by decide) (by decide) _, m1.c 149 (by decide) (by decide) _, m1.c 153 (by decide) (by decide) _, m1.c 154 (by decide) (by decide) _, m1.c 155 (by decide) (by decide) _, m1.cj 158 (by decide) (by decide) _⟩ c1
      · have := hh d d0 (by omega)
        rw [tw.2.2.2.1 r (by omega), m1.c 182 (by decide) (by decide)]
        exact hno r r0 r1 (fun e e0 e1 => hh e e0 (by omega))
