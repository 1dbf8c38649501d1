/-! THE REFERENCE: layPlace, layOut -/
theorem k_layPlace69 {s : ST} {b nd l p own one two x y z : Int} {Q : ST → Prop} (w : WF s b) (ly : LYI s b nd) (nt : NT s) (p0 : 0 ≤ p) (p1 : p < s.1 142 b) (gb : GB s x y z) (hM : s.1 139 48 < 420) (hl : 0 ≤ l ∧ l < s.1 139 48) (hp : s.1 170 l ≤ p ∧ p ≤ s.1 150 (40 * b + s.1 170 l)) (hx : x + 20 ≤ 12000) (hy : y + 3 ≤ 1300)
    (hxr : s.1 146 (40 * b + p) = 2 → 0 ≤ F_X11_rootOf s b p → x + 2 * (s.1 150 (40 * b + F_X11_rootOf s b p) - F_X11_rootOf s b p + 1) ≤ 12000)
    (hown : 0 ≤ own ∧ own < s.1 139 46) (hone : 0 < ar (s.1 146 (40 * b + p)) → 0 ≤ one ∧ one < s.1 139 46) (htwo : 1 < ar (s.1 146 (40 * b + p)) → 0 ≤ two ∧ two < s.1 139 46)
    (hthr : ∀ s', md [(139, 46), (139, 47)] [161, 162, 163, 166, 167, 168, 169] s s' → 2 < ar (s.1 146 (40 * b + p)) → P_X11_kidKind s' b l p 2 ∧ 0 ≤ s'.1 172 l + s'.1 152 (3 * (40 * b + p) + 2) - s'.1 170 l ∧ s'.1 172 l + s'.1 152 (3 * (40 * b + p) + 2) - s'.1 170 l < s.1 139 46)
    (hQ1 : (s.1 146 (40 * b + p) = 2 → F_X11_rootOf s b p < 0) → ∀ s', md [(139, 46), (139, 47)] [161, 162, 163, 166, 167, 168, 169] s s' → s.1 139 46 ≤ s'.1 139 46 → GB s' (x + 20) (y + 3) (z + 9) → Q s')
    (hQ2 : s.1 146 (40 * b + p) = 2 → 0 ≤ F_X11_rootOf s b p → F_X11_rootOf s b p < s.1 142 b → ∀ s', LM s s' (F_X11_rootOf s b p) → LYI s' b nd → GB s' (x + 2 * (s.1 150 (40 * b + F_X11_rootOf s b p) - F_X11_rootOf s b p + 1)) (y + 1) z → Q s') : K_X11_layPlace_69 s b l p own (40 * b + p) one two Q := by
  have hb := w.bb
  have hn := w.nn
  have hso := w.so p0 p1
  obtain ⟨c1, c2, c3, c4⟩ := ly.2.2 l hl.1 hl.2
  have g1 := gb.1.1
  obtain ⟨t1, t2⟩ := id nt
  refine s_X11_layPlace_69 ?_
  (repeat' (with_reducible first | refine ⟨?_, ?_⟩ | intro _))
  all_goals first | omega | skip
  · exact c_X11_ask gb (by omega) hown t1 fun s5 m5 g5 => hQ1 (by omega) s5 (m5.mono (by decide) (by decide)) (by rw [m5.f 139 46 (by decide) (by decide)]; omega) (g5.le (by omega) (by omega) (by omega))
  · exact c_X11_ask gb (by omega) hown t2 fun s5 m5 g5 => hQ1 (by omega) s5 (m5.mono (by decide) (by decide)) (by rw [m5.f 139 46 (by decide) (by decide)]; omega) (g5.le (by omega) (by omega) (by omega))
  · rename_i e
    exact c_X11_layName w ly p0 p1 e gb hM hl hp hy (hxr e) (fun hr s' m' n' g' => hQ1 (fun _ => hr) s' m' n' (g'.le (by omega) (by omega) (by omega))) (hQ2 e)
  · rename_i e
    have h1 := hone (by rw [e]; decide)
    refine c_X11_term gb (by omega) (by omega) (by omega) (by omega) fun s4 m4 n4 g4 => ?_
    refine c_X11_ask g4 (by omega) (by omega) (by omega) fun s5 m5 g5 => ?_
    have e5 := m5.f 139 46 (by decide) (by decide)
    exact hQ1 (by omega) s5 ((m4.mono (by decide) (by decide)).tr (m5.mono (by decide) (by decide))) (by omega) (g5.le (by omega) (by omega) (by rw [if_pos (by omega)]; omega))
  · rename_i e
    exact c_X11_ask gb (by omega) hown (htwo (by rw [e]; decide)) fun s5 m5 g5 => hQ1 (by omega) s5 (m5.mono (by decide) (by decide)) (by rw [m5.f 139 46 (by decide) (by decide)]; omega) (g5.le (by omega) (by omega) (by omega))
  · rename_i e
    have h1 := hone (by rw [e]; decide)
    have h2 := htwo (by rw [e]; decide)
    refine c_X11_ask gb (by omega) h1 t2 fun s4 m4 g4 => ?_
    have e4 := m4.f 139 46 (by decide) (by decide)
    refine c_X11_ask g4 (by omega) (by omega) (by omega) fun s5 m5 g5 => ?_
    have e5 := m5.f 139 46 (by decide) (by decide)
    have m45 : md [(139, 46), (139, 47)] [161, 162, 163, 166, 167, 168, 169] s s5 := (m4.mono (by decide) (by decide)).tr (m5.mono (by decide) (by decide))
    obtain ⟨q1, q2, q3⟩ := hthr s5 m45 (by rw [e]; decide)
    refine ⟨q1, ?_⟩
    refine c_X11_ask g5 (by omega) (by omega) (by omega) fun s6 m6 g6 => ?_
    have e6 := m6.f 139 46 (by decide) (by decide)
    exact hQ1 (by omega) s6 (m45.tr (m6.mono (by decide) (by decide))) (by omega) (g6.le (by omega) (by omega) (by omega))
  · rename_i e
    have h1 := hone (by rw [e]; decide)
    have h2 := htwo (by rw [e]; decide)
    refine c_X11_term gb (by omega) (by omega) (by omega) (by omega) fun s4 m4 n4 g4 => ?_
    refine c_X11_ask g4 (by omega) (by omega) (by omega) fun s5 m5 g5 => ?_
    have e5 := m5.f 139 46 (by decide) (by decide)
    exact hQ1 (by omega) s5 ((m4.mono (by decide) (by decide)).tr (m5.mono (by decide) (by decide))) (by omega) (g5.le (by omega) (by omega) (by rw [if_pos (by omega)]; omega))
  · rename_i e
    have h1 := hone (by rw [e]; decide)
    have h2 := htwo (by rw [e]; decide)
    refine c_X11_term gb (by omega) (by omega) (by omega) (by omega) fun s4 m4 n4 g4 => ?_
    refine c_X11_ask g4 (by omega) (by omega) (by omega) fun s5 m5 g5 => ?_
    have e5 := m5.f 139 46 (by decide) (by decide)
    exact hQ1 (by omega) s5 ((m4.mono (by decide) (by decide)).tr (m5.mono (by decide) (by decide))) (by omega) (g5.le (by omega) (by omega) (by rw [if_pos (by omega)]; omega))
  · rename_i e
    have h1 := hone (by rw [e]; decide)
    refine c_X11_openTerm gb (by omega) fun s3 m3 n3 g3 => ?_
    refine c_X11_term g3 (by omega) (by omega) (by omega) (by omega) fun s4 m4 n4 g4 => ?_
    refine c_X11_ask g4 (by omega) (by omega) (by omega) fun s5 m5 g5 => ?_
    have e5 := m5.f 139 46 (by decide) (by decide)
    exact hQ1 (by omega) s5 (((m3.mono (by decide) (by decide)).tr (m4.mono (by decide) (by decide))).tr (m5.mono (by decide) (by decide))) (by omega) (g5.le (by omega) (by omega) (by rw [if_pos (by omega)]; omega))
  · rename_i e
    have h1 := hone (by rw [e]; decide)
    refine c_X11_openTerm gb (by omega) fun s3 m3 n3 g3 => ?_
    refine c_X11_term g3 (by omega) (by omega) (by omega) (by omega) fun s4 m4 n4 g4 => ?_
    refine c_X11_ask g4 (by omega) (by omega) (by omega) fun s5 m5 g5 => ?_
    have e5 := m5.f 139 46 (by decide) (by decide)
    exact hQ1 (by omega) s5 (((m3.mono (by decide) (by decide)).tr (m4.mono (by decide) (by decide))).tr (m5.mono (by decide) (by decide))) (by omega) (g5.le (by omega) (by omega) (by rw [if_pos (by omega)]; omega))
  · rename_i e
    refine c_X11_openTerm gb (by omega) fun s3 m3 n3 g3 => ?_
    refine c_X11_term g3 (by omega) (by omega) (by omega) (by omega) fun s4 m4 n4 g4 => ?_
    refine c_X11_ask g4 (by omega) (by omega) (by omega) fun s5 m5 g5 => ?_
    have e5 := m5.f 139 46 (by decide) (by decide)
    exact hQ1 (by omega) s5 (((m3.mono (by decide) (by decide)).tr (m4.mono (by decide) (by decide))).tr (m5.mono (by decide) (by decide))) (by omega) (g5.le (by omega) (by omega) (by rw [if_neg (by omega)]; omega))
  · rename_i e
    have h1 := hone (by
      have : s.1 146 (40 * b + p) = 11 ∨ s.1 146 (40 * b + p) = 12 ∨ s.1 146 (40 * b + p) = 13 ∨ s.1 146 (40 * b + p) = 14 ∨ s.1 146 (40 * b + p) = 15 ∨ s.1 146 (40 * b + p) = 16 := by omega
      rcases this with h | h | h | h | h | h <;> rw [h] <;> decide)
    exact c_X11_layRowed w p0 p1 (by omega) gb nt hx hy hown h1 htwo fun s' m' n' g' => hQ1 (by omega) s' m' n' g'
theorem c_X11_layPlace {s : ST} {b nd l p x y z : Int} {Q : ST → Prop} (w : WF s b) (ly : LYI s b nd) (nt : NT s) (p0 : 0 ≤ p) (p1 : p < s.1 142 b) (gb : GB s x y z) (hM : s.1 139 48 < 420) (hl : 0 ≤ l ∧ l < s.1 139 48) (hp : s.1 170 l ≤ p ∧ p ≤ s.1 150 (40 * b + s.1 170 l)) (hx : x + 20 ≤ 12000) (hy : y + 3 ≤ 1300)
    (hxr : s.1 146 (40 * b + p) = 2 → 0 ≤ F_X11_rootOf s b p → x + 2 * (s.1 150 (40 * b + F_X11_rootOf s b p) - F_X11_rootOf s b p + 1) ≤ 12000)
    (hQ1 : (s.1 146 (40 * b + p) = 2 → F_X11_rootOf s b p < 0) → ∀ s', md [(139, 46), (139, 47)] [161, 162, 163, 166, 167, 168, 169] s s' → s.1 139 46 ≤ s'.1 139 46 → GB s' (x + 20) (y + 3) (z + 9) → Q s')
    (hQ2 : s.1 146 (40 * b + p) = 2 → 0 ≤ F_X11_rootOf s b p → F_X11_rootOf s b p < s.1 142 b → ∀ s', LM s s' (F_X11_rootOf s b p) → LYI s' b nd → GB s' (x + 2 * (s.1 150 (40 * b + F_X11_rootOf s b p) - F_X11_rootOf s b p + 1)) (y + 1) z → Q s') : C_X11_layPlace s b l p Q := by
  have hb := w.bb
  have hn := w.nn
  obtain ⟨c1, c2, c3, c4⟩ := ly.2.2 l hl.1 hl.2
  have g1 := gb.1.1
  have hle := w.le c1.1 c1.2 hp.1 hp.2
  have hE : F_X11_kidsOf s (s.1 146 (40 * b + p)) = ar (s.1 146 (40 * b + p)) := rfl
  have hkid : ∀ k, 0 ≤ k → k < ar (s.1 146 (40 * b + p)) → (p < s.1 152 (3 * (40 * b + p) + k) ∧ s.1 152 (3 * (40 * b + p) + k) ≤ s.1 150 (40 * b + s.1 170 l)) := fun k k0 k1 => by
    have := w.kid p0 p1 k0 k1
    omega
  have thr : ∀ s', md [(139, 46), (139, 47)] [161, 162, 163, 166, 167, 168, 169] s s' → 2 < ar (s.1 146 (40 * b + p)) → P_X11_kidKind s' b l p 2 ∧ 0 ≤ s'.1 172 l + s'.1 152 (3 * (40 * b + p) + 2) - s'.1 170 l ∧ s'.1 172 l + s'.1 152 (3 * (40 * b + p) + 2) - s'.1 170 l < s.1 139 46 := by
    intro s' m' h2
    have k2 := hkid 2 (by omega) h2
    have e1 := m'.c 172 (by decide) (by decide) l
    have e2 := m'.c 152 (by decide) (by decide) (3 * (40 * b + p) + 2)
    have e3 := m'.c 170 (by decide) (by decide) l
    refine ⟨?_, by omega, by omega⟩
    (repeat' (with_reducible first | refine ⟨?_, ?_⟩ | intro _))
    all_goals omega
  have k41 : ∀ t0, (0 < ar (s.1 146 (40 * b + p)) → 0 ≤ t0 ∧ t0 < s.1 139 46) → K_X11_layPlace_41 s b l p (s.1 172 l + p - s.1 170 l) (40 * b + p) t0 Q := by
    intro t0 h0
    refine s_X11_layPlace_41 ?_
    (repeat' (with_reducible first | refine ⟨?_, ?_⟩ | intro _))
    all_goals first | omega | skip
    · exact k_layPlace69 w ly nt p0 p1 gb hM hl hp hx hy hxr (by omega) h0 (by omega) thr hQ1 hQ2
    · have := hkid 1 (by omega) (by omega); omega
    · have := hkid 1 (by omega) (by omega); omega
    · have := hkid 1 (by omega) (by omega); omega
    · have := hkid 1 (by omega) (by omega); omega
    · exact k_layPlace69 w ly nt p0 p1 gb hM hl hp hx hy hxr (by omega) h0 (fun h1 => by have := hkid 1 (by omega) h1; omega) thr hQ1 hQ2
  refine s_X11_layPlace ?_
  (repeat' (with_reducible first | refine ⟨?_, ?_⟩ | intro _))
  all_goals first | omega | skip
  · exact k41 _ (fun h => by omega)
  · have := hkid 0 (by omega) (by omega); omega
  · have := hkid 0 (by omega) (by omega); omega
  · have := hkid 0 (by omega) (by omega); omega
  · have := hkid 0 (by omega) (by omega); omega
  · exact k41 _ (fun h => by have := hkid 0 (by omega) (by omega); omega)
