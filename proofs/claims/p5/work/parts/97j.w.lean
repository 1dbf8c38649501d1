/-! THE REFERENCE: call, NAMES, the steps of a run -/
theorem c_X11_call {s0 s : ST} {b : Int} {Q : ST → Prop} (hS : STP s0 b Q) (t : TOPS s0 s b) (hfo : 0 ≤ s.1 191 (s.1 139 83 - 1) ∧ s.1 191 (s.1 139 83 - 1) < s.1 139 85) (hres : RES s) (ht : FRM s b (s.1 139 83 - 1)) : C_X11_call s (s.1 139 83 - 1) Q := by
  obtain ⟨m0, rr, e88, hF, hW, h1, w, h28, _⟩ := t
  have r := rr.full ht
  obtain ⟨a1, a2, a3, a4, a5, a6⟩ := id r
  obtain ⟨r0, r1⟩ := hres
  obtain ⟨v1, v2, v3, v4⟩ := a5 _ hfo.1 hfo.2
  have hb := w.bb
  have nn := w.nn
  generalize hfun : s.1 191 (s.1 139 83 - 1) = fun_ at *
  refine s_X11_call ?_
  rw [hfun, h28]
  (repeat' (with_reducible first | refine ⟨?_, ?_⟩ | intro _))
  all_goals first | omega | exact wrong_ok hS m0 (by decide) | (have := (v2 (by assumption)).1; omega) | skip
  rename_i h4
  obtain ⟨⟨n01, n3⟩, cvf⟩ := v2 h4
  rw [show s.1 139 86 + 1 - 1 = s.1 139 86 by omega]
  have m1 : md [(139, 86)] [196, 197, 198] s (ui (ui (ui (ui s 196 (s.1 139 86) (s.1 193 fun_)) 197 (s.1 139 86) (s.1 139 87)) 198 (s.1 139 86) (s.1 194 fun_)) 139 86 (s.1 139 86 + 1)) := (by repeat' (first | exact md.rf | assumption | refine md.ui ?_ ?_ | refine md.uj ?_ ?_ | exact Or.inr (by decide) | exact Or.inl (by decide)))
  have g86 : (ui (ui (ui (ui s 196 (s.1 139 86) (s.1 193 fun_)) 197 (s.1 139 86) (s.1 139 87)) 198 (s.1 139 86) (s.1 194 fun_)) 139 86 (s.1 139 86 + 1)).1 139 86 = s.1 139 86 + 1 := ui_same
  have g6 : ∀ i, (ui (ui (ui (ui s 196 (s.1 139 86) (s.1 193 fun_)) 197 (s.1 139 86) (s.1 139 87)) 198 (s.1 139 86) (s.1 194 fun_)) 139 86 (s.1 139 86 + 1)).1 196 i = if i = s.1 139 86 then s.1 193 fun_ else s.1 196 i := fun i => by
    rw [ui_cell (by decide), ui_cell (by decide), ui_cell (by decide)]
    by_cases c : i = s.1 139 86
    · rw [c, ui_same, if_pos rfl]
    · rw [ui_ne c, if_neg c]
  have g7 : ∀ i, (ui (ui (ui (ui s 196 (s.1 139 86) (s.1 193 fun_)) 197 (s.1 139 86) (s.1 139 87)) 198 (s.1 139 86) (s.1 194 fun_)) 139 86 (s.1 139 86 + 1)).1 197 i = if i = s.1 139 86 then s.1 139 87 else s.1 197 i := fun i => by
    rw [ui_cell (by decide), ui_cell (by decide)]
    by_cases c : i = s.1 139 86
    · rw [c, ui_same, if_pos rfl]
    · rw [ui_ne c, if_neg c, ui_cell (by decide)]
  have g8 : ∀ i, (ui (ui (ui (ui s 196 (s.1 139 86) (s.1 193 fun_)) 197 (s.1 139 86) (s.1 139 87)) 198 (s.1 139 86) (s.1 194 fun_)) 139 86 (s.1 139 86 + 1)).1 198 i = if i = s.1 139 86 then s.1 194 fun_ else s.1 198 i := fun i => by
    rw [ui_cell (by decide)]
    by_cases c : i = s.1 139 86
    · rw [c, ui_same, if_pos rfl]
    · rw [ui_ne c, if_neg c, ui_cell (by decide), ui_cell (by decide)]
  have key : ∀ s2, s2 = (ui (ui (ui (ui s 196 (s.1 139 86) (s.1 193 fun_)) 197 (s.1 139 86) (s.1 139 87)) 198 (s.1 139 86) (s.1 194 fun_)) 139 86 (s.1 139 86 + 1)) → C_X11_works s2 (s.1 152 (3 * (40 * b + s.1 193 fun_))) (s.1 139 86) Q := by
    intro s2 h2
    rw [← h2] at m1 g86 g6 g7 g8
    have k46 : s2.1 146 = s.1 146 := funext fun x => m1.c 146 (by decide) (by decide) x
    have k50 : s2.1 150 = s.1 150 := funext fun x => m1.c 150 (by decide) (by decide) x
    have f83 := m1.f 139 83 (by decide) (by decide)
    have f84 := m1.f 139 84 (by decide) (by decide)
    have f85 := m1.f 139 85 (by decide) (by decide)
    have old : ∀ x, 0 ≤ x → x < s.1 139 86 → s2.1 198 x = s.1 198 x ∧ s2.1 196 x = s.1 196 x := fun x x0 x1 => by
      rw [g8, g6, if_neg (by omega), if_neg (by omega)]; exact ⟨rfl, rfl⟩
    have cvk : ∀ {e p : Int}, CV s b e p → CV s2 b e p := fun {e p} h => h.keep k46 k50 (by omega) old (fun x x0 x1 => (a4 x x0 x1).1.2)
    have hk := w.kid n01.1 n01.2 (Int.le_refl 0) (show 0 < ar (s.1 146 (40 * b + s.1 193 fun_)) by rw [n3]; decide)
    have hk0 : s.1 152 (3 * (40 * b + s.1 193 fun_) + 0) = s.1 193 fun_ + 1 := ((w.1 _ n01.1 n01.2).2.2.2.1 (show 1 ≤ ar (s.1 146 (40 * b + s.1 193 fun_)) by rw [n3]; decide)).1
    rw [Int.add_zero] at hk hk0
    refine c_X11_works hS (m0.tr (m1.mono (by decide) (by decide))) ⟨by omega, by omega, by omega, fun e e0 e1 => ?_, fun i i0 i1 => ?_, fun i i0 i1 => ?_⟩ (by rw [m1.f 139 88 (by decide) (by decide)]; exact e88) (by omega) (by omega) (by rw [m1.c 142 (by decide) (by decide)]; omega) ⟨by omega, fun f f0 f1 f2 f3 => ?_⟩ (by rw [m1.c 142 (by decide) (by decide)]; omega)
    · rw [g7, g8, f85]
      by_cases c : e = s.1 139 86
      · rw [if_pos c, if_pos c]
        have := cvf.1
        omega
      · rw [if_neg c, if_neg c]
        exact a4 e e0 (by omega)
    · obtain ⟨w1, w2, w3, w4⟩ := a5 i i0 (by omega)
      unfold VAL
      rw [m1.c 192 (by decide) (by decide), m1.c 193 (by decide) (by decide), m1.c 194 (by decide) (by decide), m1.c 195 (by decide) (by decide), m1.c 142 (by decide) (by decide), k46, f85]
      exact ⟨w1, fun h => ⟨(w2 h).1, cvk (w2 h).2⟩, w3, w4⟩
    · obtain ⟨w1, w2, w3, w4⟩ := a6 i i0 (by omega)
      unfold FRM
      rw [m1.c 188 (by decide) (by decide), m1.c 189 (by decide) (by decide), m1.c 190 (by decide) (by decide), m1.c 191 (by decide) (by decide), k46, m1.c 142 (by decide) (by decide), f85]
      exact ⟨w1, w2, cvk w3, w4⟩
    · rw [k50] at f2
      rw [k46] at f3
      by_cases c : f = s.1 193 fun_
      · exact ⟨1, a3.1, Or.inl (by rw [g6, if_pos rfl, c])⟩
      · obtain ⟨n, hn⟩ := (cvk cvf).2 f f0 (by omega) (by rw [k50]; omega) (by rw [k46]; exact f3)
        exact ⟨n + 1, a3.1, Or.inr (by rw [g8, if_pos rfl]; exact hn)⟩
  exact key _ rfl
theorem c_X11_stepLeaf {s0 s : ST} {b g so st : Int} {Q : ST → Prop} (hS : STP s0 b Q) (t : TOPS s0 s b) (hg : g = 40 * b + s.1 188 (s.1 139 83 - 1)) (hso : so = s.1 146 g) (har : ar so = 0) (hst : 0 ≤ st) (hres : 1 ≤ st → RES s) (ht : st = 0 → FRM s b (s.1 139 83 - 1)) : C_X11_stepLeaf s (s.1 139 83 - 1) g so st Q := by
  obtain ⟨m0, r, e88, hF, hW, h1, w, h28, v1, v3⟩ := t
  obtain ⟨a1, a2, a3, a4, a5, a6⟩ := id r
  have hb := w.bb
  have nn := w.nn
  have hs16 := w.so v1.1 v1.2
  have after : ∀ (s' : ST), md [(139, 85)] [192, 193, 194, 195] s s' → s'.1 139 85 = s.1 139 85 + 1 → RNb s' b 1 0 1 → C_X11_gives s' (s.1 139 85) Q := fun s' m' n' r' =>
    c_X11_gives hS (m0.tr (m'.mono (by decide) (by decide))) r' (by omega) (by rw [m'.f 139 88 (by decide) (by decide)]; exact e88) (by rw [m'.f 139 83 (by decide) (by decide)]; exact hF) (by rw [m'.f 139 84 (by decide) (by decide)]; exact hW) (by rw [m'.f 139 83 (by decide) (by decide)]; exact h1) (by omega)
  have k9 : so = 0 ∨ so = 1 → K_X11_stepLeaf_9 s g so Q := by
    intro h01
    have k20 : ∀ h, h = 0 ∨ h = 1 → K_X11_stepLeaf_20 s g h Q := by
      intro h hh
      refine s_X11_stepLeaf_20 fun _ _ _ => ⟨⟨by omega, by omega⟩, c_X11_valueOf r h1 ⟨by omega, fun e => by omega, fun e => by omega, fun e => by omega⟩ fun s' m' n' r' => after s' m' n' r'⟩
    refine s_X11_stepLeaf_9 ?_
    (repeat' (with_reducible first | refine ⟨?_, ?_⟩ | intro _))
    all_goals first | exact k20 _ (Or.inl rfl) | exact k20 _ (Or.inr rfl)
  have k129 : st = 0 → ∀ p e, (0 ≤ p ∧ p < s.1 142 b) → CV s b e p → K_X11_stepLeaf_129 s p e Q := fun hs p e hp cv => s_X11_stepLeaf_129 fun _ _ _ => c_X11_works hS m0 (r.full (ht hs)).wk e88 hF hW hp cv nn.2.2
  have k143 : ∀ (n : Nat) (e : Int), e < s.1 139 86 → ICh (s.1 198) (s.1 196) (s.1 153 g) n e → K_X11_stepLeaf_143 s g e Q := by
    intro n
    induction n with
    | zero => intro e _ h; exact absurd h (fun h => h)
    | succ n ih =>
      intro e he h
      obtain ⟨h0, h3⟩ := h
      have h4 := a4 e h0 he
      refine s_X11_stepLeaf_143 ?_
      (repeat' (with_reducible first | refine ⟨?_, ?_⟩ | intro _))
      all_goals first | omega | skip
      · exact c_X11_gives hS m0 r (by omega) e88 hF hW h1 h4.2
      · rename_i hne
        rcases h3 with h3 | h3
        · exact absurd h3 hne
        · exact ih _ (by omega) h3
  by_cases c2 : so = 2
  · have e2 : s.1 146 (40 * b + s.1 188 (s.1 139 83 - 1)) = 2 := by rw [← hg, ← hso]; exact c2
    have hpr := w.Proot v1.1 v1.2 e2
    have hrt := w.root v1.1 v1.2 e2
    have hnm := w.name v1.1 v1.2 e2
    refine s_X11_stepLeaf fun _ _ _ _ _ => ⟨fun h => by omega, fun _ => ⟨fun _ => ⟨fun _ => ⟨fun hs0 => ⟨⟨by omega, by omega⟩, by rw [h28]; exact hpr, ?_⟩, fun hs1 => ?_⟩, fun h => by omega⟩, fun h => by omega⟩⟩
    · rw [h28]
      rw [← hg] at hrt hnm
      refine ⟨fun hneg => ?_, fun hpos => ⟨⟨by omega, by omega⟩, fun hlt => ?_, fun hge => ?_⟩⟩
      · rcases hrt with ⟨x1, x2, x3⟩ | ⟨x1, x2, x3, _⟩ | ⟨x1, _, _, x4, _⟩
        · obtain ⟨⟨y1, y2, y3⟩, y4⟩ := hnm.1 x1
          obtain ⟨n, hn⟩ := v3.2 (s.1 153 g) y1 y2 y3 x2
          exact k143 n _ v3.1.2 hn
        · have := (hnm.1 x1).1; omega
        · omega
      · rcases hrt with ⟨x1, x2, x3⟩ | ⟨x1, x2, x3, x4, x5⟩ | ⟨x1, _⟩
        · omega
        · obtain ⟨⟨y1, y2, y3⟩, y4⟩ := hnm.1 x1
          refine k129 (by omega) _ _ ⟨by omega, x5⟩ ⟨v3.1, fun f f0 f1 f2 f3 => ?_⟩
          have hff : f ≠ s.1 153 g := fun h => by rw [h] at f3; omega
          have := w.le f0 (show f < s.1 142 b by omega) (show f ≤ s.1 153 g by omega) (by omega)
          exact v3.2 f f0 (by omega) (by omega) f3
        · omega
      · rcases hrt with ⟨x1, _⟩ | ⟨x1, _⟩ | ⟨x1, x2, x3, x4, x5⟩
        · omega
        · omega
        · refine k129 (by omega) _ _ ⟨x4, x5⟩ ⟨⟨by omega, by omega⟩, fun f f0 f1 f2 f3 => ?_⟩
          rw [x3] at f1 f2
          have := w.sep f0 x2.1 x2.2 f1
          omega
    · (repeat' (with_reducible first | refine ⟨?_, ?_⟩ | intro _))
      all_goals first | omega | skip
      exact pop_ok hS m0 r (by omega) e88 hF hW h1 (md.rf.ui (Or.inl (by decide))) ui_same (ui_ne (by decide)) (hres (by omega))
  · have h3 : so = 0 ∨ so = 1 ∨ so = 10 := by
      rw [← hg, ← hso] at hs16
      have : so = 0 ∨ so = 1 ∨ so = 3 ∨ so = 4 ∨ so = 5 ∨ so = 6 ∨ so = 7 ∨ so = 8 ∨ so = 9 ∨ so = 10 ∨ so = 11 ∨ so = 12 ∨ so = 13 ∨ so = 14 ∨ so = 15 ∨ so = 16 := by omega
      rcases this with h | h | h | h | h | h | h | h | h | h | h | h | h | h | h | h
      · exact Or.inl h
      · exact Or.inr (Or.inl h)
      all_goals first | exact Or.inr (Or.inr h) | (rw [h] at har; exact absurd har (by decide))
    refine s_X11_stepLeaf ?_
    (repeat' (with_reducible first | refine ⟨?_, ?_⟩ | intro _))
    all_goals first | omega | exact k9 (by omega) | skip
    exact c_X11_valueOf r h1 ⟨by omega, fun e => by omega, fun e => by omega, fun _ e => absurd rfl e⟩ fun s' m' n' r' => after s' m' n' r'
