/-! THE REFERENCE: layPlace, layOut -/
theorem NT.keep {fs : List (Nat × Int)} {cs : List Nat} {s s' : ST} (h : NT s) (hm : md fs cs s s') (hN : s.1 139 46 ≤ s'.1 139 46) (h1 : decide (((139 : Nat), (50 : Int)) ∉ fs) = true) (h2 : decide (((139 : Nat), (51 : Int)) ∉ fs) = true) (h3 : decide (139 ∉ cs) = true) : NT s' := by
  unfold NT at *
  rw [hm.f 139 50 h1 h3, hm.f 139 51 h2 h3]
  omega
theorem c_X11_layRowed {s : ST} {b l p own one two x y z : Int} {Q : ST → Prop} (w : WF s b) (p0 : 0 ≤ p) (p1 : p < s.1 142 b) (hs : 11 ≤ s.1 146 (40 * b + p)) (gb : GB s x y z) (nt : NT s) (hx : x + 20 ≤ 12000) (hy : y + 3 ≤ 1300) (hown : 0 ≤ own ∧ own < s.1 139 46) (hone : 0 ≤ one ∧ one < s.1 139 46) (htwo : 1 < ar (s.1 146 (40 * b + p)) → 0 ≤ two ∧ two < s.1 139 46)
    (hQ : ∀ s', md [(139, 46), (139, 47)] [161, 162, 163, 166, 167, 168, 169] s s' → s.1 139 46 ≤ s'.1 139 46 → GB s' (x + 20) (y + 3) (z + 9) → Q s') : C_X11_layRowed s b l p own one two Q := by
  have hb := w.bb
  have hn := w.nn
  have h16 := w.so p0 p1
  have k118 : s.1 146 (40 * b + p) = 14 ∨ s.1 146 (40 * b + p) = 15 → K_X11_layRowed_118 s b p own one two Q := by
    intro h1415
    have h2 := htwo (by rcases h1415 with h | h <;> rw [h] <;> decide)
    have k171 : ∀ s2 v, md [(139, 47)] [167, 168, 169] s s2 → GB s2 x (y + 2) z → (0 ≤ v ∧ v < s2.1 139 46) → K_X11_layRowed_171 s2 p own v Q := by
      intro s2 v m2 g2 hv
      have f46 := m2.f 139 46 (by decide) (by decide)
      exact s_X11_layRowed_171 fun _ _ _ _ => c_X11_ask g2 (by omega) (by omega) hv fun s3 m3 g3 => hQ s3 ((m2.mono (by decide) (by decide)).tr (m3.mono (by decide) (by decide))) (by rw [m3.f 139 46 (by decide) (by decide)]; omega) (g3.le (by omega) (by omega) (by omega))
    refine s_X11_layRowed_118 fun _ _ _ _ _ _ => c_X11_ask gb (by omega) hone nt.1 fun s1 m1 g1 => ?_
    have e1 := m1.f 139 46 (by decide) (by decide)
    have n1 := nt.keep m1 (by omega) (by decide) (by decide) (by decide)
    refine c_X11_ask g1 (by omega) (by omega) n1.1 fun s2 m2 g2 => ?_
    have e2 := m2.f 139 46 (by decide) (by decide)
    have n2 := n1.keep m2 (by omega) (by decide) (by decide) (by decide)
    have m12 : md [(139, 47)] [167, 168, 169] s s2 := m1.tr m2
    have f1 := n2.1
    have f2 := n2.2
    (repeat' (with_reducible first | refine ⟨?_, ?_⟩ | intro _))
    all_goals first | omega | skip
    · exact k171 s2 _ m12 (g2.le (by omega) (by omega) (by omega)) n2.2
    · exact k171 s2 _ m12 (g2.le (by omega) (by omega) (by omega)) n2.1
  refine s_X11_layRowed ?_
  (repeat' (with_reducible first | refine ⟨?_, ?_⟩ | intro _))
  all_goals first | omega | exact k118 (by omega) | skip
  · rename_i c
    have h2 := htwo (by rw [c]; decide)
    refine c_X11_term gb (by omega) (by omega) (by omega) (by omega) fun s4 m4 n4 g4 => ?_
    refine c_X11_ask g4 (by omega) (by omega) (by omega) fun s5 m5 g5 => ?_
    have e5 := m5.f 139 46 (by decide) (by decide)
    refine c_X11_ask g5 (by omega) (by omega) (by omega) fun s6 m6 g6 => ?_
    have e6 := m6.f 139 46 (by decide) (by decide)
    exact hQ s6 (((m4.mono (by decide) (by decide)).tr (m5.mono (by decide) (by decide))).tr (m6.mono (by decide) (by decide))) (by omega) (g6.le (by omega) (by omega) (by rw [if_neg (by omega)]; omega))
  · refine c_X11_term gb (by omega) (by omega) (by omega) (by omega) fun s4 m4 n4 g4 => ?_
    refine c_X11_ask g4 (by omega) (by omega) (by omega) fun s5 m5 g5 => ?_
    have e5 := m5.f 139 46 (by decide) (by decide)
    exact hQ s5 ((m4.mono (by decide) (by decide)).tr (m5.mono (by decide) (by decide))) (by omega) (g5.le (by omega) (by omega) (by rw [if_neg (by omega)]; omega))
  · refine c_X11_openTerm gb (by omega) fun s3 m3 n3 g3 => ?_
    refine c_X11_term g3 (by omega) (by omega) (by omega) (by omega) fun s4 m4 n4 g4 => ?_
    refine c_X11_ask g4 (by omega) (by omega) (by omega) fun s5 m5 g5 => ?_
    have e5 := m5.f 139 46 (by decide) (by decide)
    refine c_X11_ask g5 (by omega) (by omega) (by omega) fun s6 m6 g6 => ?_
    have e6 := m6.f 139 46 (by decide) (by decide)
    exact hQ s6 ((((m3.mono (by decide) (by decide)).tr (m4.mono (by decide) (by decide))).tr (m5.mono (by decide) (by decide))).tr (m6.mono (by decide) (by decide))) (by omega) (g6.le (by omega) (by omega) (by rw [if_neg (by omega)]; omega))
  · refine c_X11_toldKind w p0 p1 (by omega) gb nt hx fun s3 v3 m3 n3 t3 g3 hv => ?_
    refine c_X11_ask g3 (by omega) (by omega) hv fun s5 m5 g5 => ?_
    have e5 := m5.f 139 46 (by decide) (by decide)
    refine c_X11_ask g5 (by omega) (by omega) (by omega) fun s6 m6 g6 => ?_
    have e6 := m6.f 139 46 (by decide) (by decide)
    exact hQ s6 (((m3.mono (by decide) (by decide)).tr (m5.mono (by decide) (by decide))).tr (m6.mono (by decide) (by decide))) (by omega) (g6.le (by omega) (by omega) (by omega))
/-- one lay more, of the root r -/
def LM (s s' : ST) (r : Int) : Prop := md [(139, 46), (139, 47), (139, 48)] [161, 162, 163, 166, 167, 168, 169, 170, 171, 172, 173] s s' ∧ s.1 139 46 ≤ s'.1 139 46 ∧ s'.1 139 48 = s.1 139 48 + 1 ∧ s'.1 170 (s.1 139 48) = r ∧ ∀ l, l ≠ s.1 139 48 → s'.1 170 l = s.1 170 l
theorem c_X11_layName {s : ST} {b nd l p x y z : Int} {Q : ST → Prop} (w : WF s b) (ly : LYI s b nd) (p0 : 0 ≤ p) (p1 : p < s.1 142 b) (hs : s.1 146 (40 * b + p) = 2) (gb : GB s x y z) (hM : s.1 139 48 < 420) (hl : 0 ≤ l ∧ l < s.1 139 48) (hp : s.1 170 l ≤ p ∧ p ≤ s.1 150 (40 * b + s.1 170 l)) (hy : y + 3 ≤ 1300)
    (hx : 0 ≤ F_X11_rootOf s b p → x + 2 * (s.1 150 (40 * b + F_X11_rootOf s b p) - F_X11_rootOf s b p + 1) ≤ 12000)
    (hQ1 : F_X11_rootOf s b p < 0 → ∀ s', md [(139, 46), (139, 47)] [161, 162, 163, 166, 167, 168, 169] s s' → s.1 139 46 ≤ s'.1 139 46 → GB s' x (y + 1) z → Q s')
    (hQ2 : 0 ≤ F_X11_rootOf s b p → F_X11_rootOf s b p < s.1 142 b → ∀ s', LM s s' (F_X11_rootOf s b p) → LYI s' b nd → GB s' (x + 2 * (s.1 150 (40 * b + F_X11_rootOf s b p) - F_X11_rootOf s b p + 1)) (y + 1) z → Q s') : C_X11_layName s b l p Q := by
  have hb := w.bb
  have hn := w.nn
  have hnm := w.name p0 p1 hs
  obtain ⟨c1, c2, c3, c4⟩ := ly.2.2 l hl.1 hl.2
  have g1 := gb.1.1
  have k89 : ∀ o, 0 ≤ F_X11_rootOf s b p → F_X11_rootOf s b p < s.1 142 b → ((∃ d, 0 ≤ d ∧ d < s.1 143 b ∧ F_X11_rootOf s b p = s.1 145 (8 * b + d)) ∨ ((0 ≤ o ∧ o < s.1 139 48) ∧ (s.1 170 o ≤ F_X11_rootOf s b p - 1 ∧ F_X11_rootOf s b p - 1 ≤ s.1 150 (40 * b + s.1 170 o)) ∧ s.1 146 (40 * b + (F_X11_rootOf s b p - 1)) = 4)) → K_X11_layName_89 s l p (F_X11_rootOf s b p) b (F_X11_rootOf s b p) o Q := by
    intro o r0 r1 ho
    have hQ2 := hQ2 r0 r1
    have hx := hx r0
    generalize F_X11_rootOf s b p = r at *
    have hr := w.en r0 r1
    refine s_X11_layName_89 fun _ _ _ _ _ _ _ => c_X11_beginsLay w r0 r1 (by omega) gb hx fun s1 m1 n1 M1 e1 e2 gb1 => ?_
    obtain ⟨ly1, -⟩ := ly.grow w r0 r1 (by omega) m1 n1 M1 e1 e2 ho
    have el := e2 l (by omega)
    (repeat' (with_reducible first | refine ⟨?_, ?_⟩ | intro _))
    all_goals first | omega | skip
    refine c_X11_ask gb1 (by omega) (by omega) (by omega) fun s6 m6 g6 => ?_
    have e46 := m6.f 139 46 (by decide) (by decide)
    refine hQ2 s6 ⟨(m1.mono (by decide) (by decide)).tr (m6.mono (by decide) (by decide)), by omega, ?_, ?_, fun l' hl' => ?_⟩ (ly1.keep m6 (by omega) (by decide) (by decide)) (g6.le (by omega) (by omega) (by omega))
    · rw [m6.f 139 48 (by decide) (by decide)]; exact M1
    · rw [m6.c 170 (by decide) (by decide)]; exact e1.1
    · rw [m6.c 170 (by decide) (by decide)]; exact (e2 l' hl').1
  have lay : ∀ Q' : ST → Int → Prop, s.1 153 (40 * b + p) < 100 → (∀ a, 0 ≤ a → a < s.1 139 48 → s.1 170 a ≤ s.1 153 (40 * b + p) → s.1 153 (40 * b + p) ≤ s.1 150 (40 * b + s.1 170 a) → Q' s a) → C_X11_layOf s b l (s.1 153 (40 * b + p)) Q' := by
    intro Q' h1 h2
    obtain ⟨⟨a1, a2, a3⟩, a4⟩ := hnm.1 h1
    exact s_X11_layOf fun _ _ _ _ => k_layOf w ly (by omega) a1 l.toNat l p (by omega) hl.1 hl.2 hp a2 a3 (fun e4 => a4.elim (fun h => by omega) (fun h => h.2)) h2
  have hrt := w.root p0 p1 hs
  refine s_X11_layName fun _ _ _ _ => ⟨w.Proot p0 p1 hs, ?_⟩
  (repeat' (with_reducible first | refine ⟨?_, ?_⟩ | intro _))
  all_goals first | omega | skip
  · rcases hrt with ⟨h1, h2, h3⟩ | ⟨h1, h2, h3, h4, h5⟩ | ⟨h1, _⟩
    · omega
    · refine lay _ h1 fun a a0 a1 a2 a3 => ?_
      refine k89 a (by omega) h5 (Or.inr ⟨⟨a0, a1⟩, ?_, ?_⟩)
      · rw [h3]; omega
      · rw [h3, show s.1 153 (40 * b + p) + 1 - 1 = s.1 153 (40 * b + p) by omega]; exact h2
    · omega
  · rcases hrt with ⟨h1, h2, h3⟩ | ⟨h1, h2, h3, h4, h5⟩ | ⟨h1, h2, h3, h4, h5⟩
    · omega
    · omega
    · exact k89 (-1) h4 h5 (Or.inl ⟨_, h2.1, h2.2, h3⟩)
  · rcases hrt with ⟨h1, h2, h3⟩ | ⟨h1, h2, h3, h4, h5⟩ | ⟨h1, h2, h3, h4, h5⟩
    · refine lay _ h1 fun a a0 a1 a2 a3 => ?_
      obtain ⟨d1, d2, d3, d4⟩ := ly.2.2 a a0 a1
      have hbi := (hnm.1 h1).1
      (repeat' (with_reducible first | refine ⟨?_, ?_⟩ | intro _))
      all_goals first | omega | skip
      refine c_X11_ask gb (by omega) (by omega) (by omega) fun s6 m6 g6 => ?_
      exact hQ1 (by omega) s6 (m6.mono (by decide) (by decide)) (by rw [m6.f 139 46 (by decide) (by decide)]; omega) g6
    · have hbi := (hnm.1 h1).1
      omega
    · omega
