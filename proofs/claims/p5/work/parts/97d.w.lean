/-! THE REFERENCE: change() returns, with a good bank 2 -/
theorem NEW.inj {s0 s : ST} {b p c w its : Int} (cx : CX s0 b p c w its) (h5 : ∀ d, 0 ≤ d → d < s0.1 143 b → PO s0 b p c its s (s0.1 145 (8 * b + d)) (Od s0 b p c d)) : (∀ r, 0 ≤ r → r < s0.1 142 b → 0 ≤ s.1 182 r → s.1 182 r < 40) ∧ ∀ r1 r2, 0 ≤ r1 → r1 < s0.1 142 b → 0 ≤ r2 → r2 < s0.1 142 b → 0 ≤ s.1 182 r1 → s.1 182 r1 = s.1 182 r2 → r1 = r2 := by
  have W := cx.2.1
  have nn := W.nn
  have F1 : ∀ r, 0 ≤ r → r < s0.1 142 b → 0 ≤ s.1 182 r → Od s0 b p c (s0.1 149 (40 * b + r)) ≤ s.1 182 r ∧ s.1 182 r + nz s0 b p c r ≤ Od s0 b p c (s0.1 149 (40 * b + r)) + nz s0 b p c (s0.1 145 (8 * b + s0.1 149 (40 * b + r))) := by
    intro r r0 r1 hr
    obtain ⟨⟨d0, d1⟩, d2, d3⟩ := W.dO r0 r1
    have := (h5 _ d0 d1).2.1 r d2 d3
    omega
  refine ⟨fun r r0 r1 hr => ?_, fun r1 r2 a0 a1 b0 b1 hr he => ?_⟩
  · have f := F1 r r0 r1 hr
    obtain ⟨⟨d0, d1⟩, d2, d3⟩ := W.dO r0 r1
    have := Od_end cx d0 d1
    have := (cx.nz_ge r0 r1).1
    omega
  · have f1 := F1 r1 a0 a1 hr
    have f2 := F1 r2 b0 b1 (by omega)
    obtain ⟨⟨d0, d1⟩, d2, d3⟩ := W.dO a0 a1
    obtain ⟨⟨e0, e1⟩, e2, e3⟩ := W.dO b0 b1
    have z1 := (cx.nz_ge a0 a1).1
    have z2 := (cx.nz_ge b0 b1).1
    have sep : ∀ d e, 0 ≤ d → d < e → e < s0.1 143 b → Od s0 b p c d + nz s0 b p c (s0.1 145 (8 * b + d)) ≤ Od s0 b p c e := by
      intro d e x0 x1 x2
      have he := Od_succ (s0 := s0) (b := b) (p := p) (c := c) x0
      have hm := Od_mono cx (e - (d + 1)).toNat (d + 1) (by omega) (by omega)
      rw [show d + 1 + (((e - (d + 1)).toNat : Nat) : Int) = e by omega] at hm
      omega
    by_cases g : s0.1 149 (40 * b + r1) = s0.1 149 (40 * b + r2)
    · rw [← g] at e2 e3
      exact (h5 _ d0 d1).2.2.2.2.2.2 r1 r2 d2 d3 e2 e3 hr he
    · by_cases l : s0.1 149 (40 * b + r1) < s0.1 149 (40 * b + r2)
      · have := sep _ _ d0 l e1; omega
      · have := sep _ _ e0 (show s0.1 149 (40 * b + r2) < s0.1 149 (40 * b + r1) by omega) d1; omega
/-- kids are written for the places before q, and of q before k -/
def KI8 (s0 : ST) (b p c : Int) (s1 s : ST) (q k : Int) : Prop := md [] [152] s1 s ∧ (∀ z, z < 240 ∨ 360 ≤ z → s.1 152 z = s1.1 152 z) ∧ (∀ r j, 0 ≤ r → r < s0.1 142 b → 0 ≤ s1.1 182 r → 0 ≤ j → j < ar (ns s0 b p c r) → (r < q ∨ r = q ∧ j < k) → s.1 152 (3 * (80 + s1.1 182 r) + j) = s1.1 182 (nk s0 b p c r j))
theorem k_change289 {s0 sS s1 : ST} {b p c w its : Int} {Q : ST → Prop} (cx : CX s0 b p c w its) (df : DEFI s0 sS b p c w its s1 (s0.1 143 b)) {q : Int} (q0 : 0 ≤ q) (q1 : q < s0.1 142 b) (hv : 0 ≤ s1.1 182 q) (hk : ∀ s, KI8 s0 b p c s1 s (q + 1) 0 → K_X11_change_262 s p c (q + 1) Q) : ∀ (m : Nat) (s : ST) (k : Int), ar (ns s0 b p c q) - k = (m : Int) → 0 ≤ k → KI8 s0 b p c s1 s q k → K_X11_change_289 s p c q k Q := by
  obtain ⟨f1, sc, h142, h143, h144, h156, h145, hpo, hno⟩ := id df
  obtain ⟨i1, i2⟩ := NEW.inj cx hpo
  have W := cx.2.1
  have nn := W.nn
  have b01 := cx.1
  have hc : s1.1 146 (80 + s1.1 182 q) = ns s0 b p c q := by
    obtain ⟨⟨d0, d1⟩, d2, d3⟩ := W.dO q0 q1
    exact ((hpo _ d0 d1).2.2.2.2.2.1 q d2 d3 hv).1
  have hlt := i1 q q0 q1 hv
  have har := ar_r (ns s0 b p c q)
  intro m
  induction m with
  | zero =>
    intro s k hm k0 h
    obtain ⟨m1, h2, h3⟩ := id h
    have e182 := m1.c 182 (by decide) (by decide)
    have e146 := m1.c 146 (by decide) (by decide)
    have eA : F_X11_kidsOf s (s.1 146 (80 + s.1 182 q)) = ar (ns s0 b p c q) := by rw [e182, e146, hc]; rfl
    refine s_X11_change_289 ?_
    rw [eA, e182]
    (repeat' (with_reducible first | refine ⟨?_, ?_⟩ | intro _))
    all_goals first | omega | skip
    exact hk s ⟨m1, h2, fun r j r0 r1 hr j0 j1 hh => h3 r j r0 r1 hr j0 j1 (by
      rcases hh with hh | hh
      · by_cases e : r = q
        · rw [e] at j1; exact Or.inr ⟨e, by omega⟩
        · exact Or.inl (by omega)
      · omega)⟩
  | succ m ih =>
    intro s k hm k0 h
    obtain ⟨m1, h2, h3⟩ := id h
    have e182 := m1.c 182 (by decide) (by decide)
    have e146 := m1.c 146 (by decide) (by decide)
    have h28 : s.1 139 28 = b := by rw [m1.f 139 28 (by decide) (by decide)]; exact sc.1
    have eA : F_X11_kidsOf s (s.1 146 (80 + s.1 182 q)) = ar (ns s0 b p c q) := by rw [e182, e146, hc]; rfl
    have h0 : ar (ns s0 b p c q) = ar (s0.1 146 (40 * b + q)) := by
      rcases cx.ar_ns q with ⟨_, _, h⟩ | ⟨h, _⟩
      · omega
      · exact h
    have e46 : s.1 146 (40 * b + q) = s0.1 146 (40 * b + q) := by rw [e146]; exact (sc.2.2.2.2 (40 * b + q) (by omega) (by omega)).1
    have two : q = p → c = 0 → s0.1 146 (40 * b + q) ≠ 5 → k ≤ 1 := by
      intro x1 x2 x3
      have : ar (s0.1 146 (40 * b + q)) = 2 := by
        rw [x1] at x3 ⊢
        rcases cx.2.2.2.1.2.1 x2 with h | h | h | h | h | h
        · have h : s0.1 146 (40 * b + p) = 6 := h
          rw [h]; decide
        · have h : s0.1 146 (40 * b + p) = 7 := h
          rw [h]; decide
        · have h : s0.1 146 (40 * b + p) = 11 := h
          rw [h]; decide
        · have h : s0.1 146 (40 * b + p) = 14 := h
          rw [h]; decide
        · have h : s0.1 146 (40 * b + p) = 15 := h
          rw [h]; decide
        · exact absurd h x3
      omega
    have ek : F_X11_kidBy s q k p c = nk s0 b p c q k := by
      rw [F_kb h28]
      refine kb_eq (by show s.1 146 _ = s0.1 146 _; exact e46) ⟨k0, by omega⟩ two (fun j j0 j1 => ?_)
      show s.1 152 (3 * (40 * b + q) + j) = s0.1 152 (3 * (40 * b + q) + j)
      rw [h2 _ (by omega)]; exact sc.2.2.1 _ (by omega) (by omega)
    have hkk := cx.kid q0 q1 k0 (show k < ar (ns s0 b p c q) by omega)
    refine s_X11_change_289 ?_
    rw [eA, e182, ek]
    refine fun _ _ _ _ _ => ⟨⟨by omega, by omega⟩, ⟨by omega, by omega⟩, ⟨by omega, by omega⟩, fun h => absurd h (by omega), fun _ => ⟨⟨by omega, by omega⟩, ⟨by omega, by omega⟩, P_kb h28 b01 (by omega) (by omega) (fun x1 x2 x3 => two x1 x2 (by rw [← e46]; exact x3)), ?_⟩⟩
    (repeat' (with_reducible first | refine ⟨?_, ?_⟩ | intro _))
    all_goals first | omega | skip
    have m2 : md [] [152] s (ui s 152 (3 * (80 + s1.1 182 q) + k) (s.1 182 (nk s0 b p c q k))) := (by repeat' (first | exact md.rf | assumption | refine md.ui ?_ ?_ | refine md.uj ?_ ?_ | exact Or.inr (by decide) | exact Or.inl (by decide)))
    refine ih _ (k + 1) (by omega) (by omega) ⟨m1.tr m2, fun z hz => by rw [ui_ne (by omega)]; exact h2 z hz, fun r j r0 r1 hr j0 j1 hh => ?_⟩
    by_cases e : r = q ∧ j = k
    · rw [e.1, e.2, ui_same, e182]
    · have hjr := ar_r (ns s0 b p c r)
      rw [ui_ne (fun hx => ?_)]
      · exact h3 r j r0 r1 hr j0 j1 (by omega)
      · by_cases e2 : r = q
        · rw [e2] at hx; exact e ⟨e2, by omega⟩
        · have : s1.1 182 r = s1.1 182 q := by omega
          exact e2 (i2 r q r0 r1 q0 q1 hr this)
theorem k_change262 {s0 sS s1 : ST} {b p c w its : Int} {Q : ST → Prop} (cx : CX s0 b p c w its) (hS : WQ s0 b sS b) (df : DEFI s0 sS b p c w its s1 (s0.1 143 b)) (hk : ∀ s, KI8 s0 b p c s1 s (s0.1 142 b) 0 → C_X11_layEnds s 2 Q) : ∀ (m : Nat) (s : ST) (q : Int), s0.1 142 b - q = (m : Int) → 0 ≤ q → KI8 s0 b p c s1 s q 0 → K_X11_change_262 s p c q Q := by
  obtain ⟨f1, sc, h142, h143, h144, h156, h145, hpo, hno⟩ := id df
  have nn := cx.2.1.nn
  have b01 := cx.1
  intro m
  induction m with
  | zero =>
    intro s q hm q0 h
    obtain ⟨m1, h2, h3⟩ := id h
    obtain rfl : q = s0.1 142 b := by omega
    have h28 : s.1 139 28 = b := by rw [m1.f 139 28 (by decide) (by decide)]; exact sc.1
    have e142 : s.1 142 b = s0.1 142 b := by rw [m1.c 142 (by decide) (by decide)]; exact (f1.2.1 b (by omega)).1.trans hS.1.1
    refine s_X11_change_262 ?_
    rw [h28]
    (repeat' (with_reducible first | refine ⟨?_, ?_⟩ | intro _))
    all_goals first | omega | exact hk s h
  | succ m ih =>
    intro s q hm q0 h
    obtain ⟨m1, h2, h3⟩ := id h
    have h28 : s.1 139 28 = b := by rw [m1.f 139 28 (by decide) (by decide)]; exact sc.1
    have e142 : s.1 142 b = s0.1 142 b := by rw [m1.c 142 (by decide) (by decide)]; exact (f1.2.1 b (by omega)).1.trans hS.1.1
    have e182 := m1.c 182 (by decide) (by decide)
    refine s_X11_change_262 ?_
    rw [h28]
    (repeat' (with_reducible first | refine ⟨?_, ?_⟩ | intro _))
    all_goals first | omega | skip
    · rename_i hneg
      rw [e182] at hneg
      refine ih s (q + 1) (by omega) (by omega) ⟨m1, h2, fun r j r0 r1 hr j0 j1 hh => h3 r j r0 r1 hr j0 j1 (Or.inl ?_)⟩
      rcases hh with hh | hh
      · by_cases e : r = q
        · rw [e] at hr; omega
        · omega
      · omega
    · rename_i hpos
      rw [e182] at hpos
      exact k_change289 cx df q0 (by omega) (by omega) (fun s2 h8 => ih s2 (q + 1) (by omega) (by omega) h8) (ar (ns s0 b p c q)).toNat s 0 (by have := ar_r (ns s0 b p c q); omega) (by omega) h
theorem k_change38 {s0 sS : ST} {b p c w its : Int} {Q : ST → Prop} (cx : CX s0 b p c w its) (hS : WQ s0 b sS b) (hk : ∀ s, DEFI s0 sS b p c w its s 0 → K_X11_change_79 s p c w 0 Q) : ∀ (m : Nat) (s : ST) (j : Int), 20 - j = (m : Int) → 0 ≤ j → FP sS s → SC s0 b c w its s → s.1 142 2 = 0 → s.1 143 2 = s0.1 143 b → s.1 144 2 = s0.1 144 b → (∀ k, 0 ≤ k → k < j → s.1 156 (40 + k) = s0.1 156 (20 * b + k)) → (∀ r, 0 ≤ r → r < 40 → s.1 182 r = -1) → K_X11_change_38 s p c w j Q := by
  have b01 := cx.1
  intro m
  induction m with
  | zero =>
    intro s j hm j0 f sc h142 h143 h144 h156 hno
    refine s_X11_change_38 ?_
    (repeat' (with_reducible first | refine ⟨?_, ?_⟩ | intro _))
    all_goals first | omega | skip
    exact hk s ⟨f, sc, h142, h143, h144, fun k k0 k1 => h156 k k0 (by omega), fun e _ _ => by omega, fun e _ _ => by omega, fun r r0 r1 _ => hno r r0 r1⟩
  | succ m ih =>
    intro s j hm j0 f sc h142 h143 h144 h156 hno
    have h28 := sc.1
    refine s_X11_change_38 ?_
    rw [h28]
    (repeat' (with_reducible first | refine ⟨?_, ?_⟩ | intro _))
    all_goals first | omega | skip
    have m2 : md [] [156] s (ui s 156 (40 + j) (s.1 156 (20 * b + j))) := (by repeat' (first | exact md.rf | assumption | refine md.ui ?_ ?_ | refine md.uj ?_ ?_ | exact Or.inr (by decide) | exact Or.inl (by decide)))
    have f2 : FP s (ui s 156 (40 + j) (s.1 156 (20 * b + j))) := ⟨m2.mono (by decide) (by decide), fun x _ => ⟨ui_cell (by decide), ui_cell (by decide), ui_cell (by decide)⟩, fun z _ => ⟨ui_cell (by decide), rfl⟩, fun z hz => ui_ne (by omega), fun z _ => ⟨ui_cell (by decide), ui_cell (by decide), ui_cell (by decide), ui_cell (by decide), ui_cell (by decide), rfl⟩⟩
    refine ih _ (j + 1) (by omega) (by omega) (f.tr f2) (sc.fp b01.2 f2) (by rw [ui_cell (by decide)]; exact h142) (by rw [ui_cell (by decide)]; exact h143) (by rw [ui_cell (by decide)]; exact h144) (fun k k0 k1 => ?_) (fun r r0 r1 => by rw [ui_cell (by decide)]; exact hno r r0 r1)
    by_cases e : k = j
    · rw [e, ui_same]; exact (f.2.2.2.1 _ (by omega)).trans (hS.2.2.1 j j0 (by omega))
    · rw [ui_ne (by omega)]; exact h156 k k0 (by omega)
theorem NEW.keep {s0 s s' : ST} {b p c its : Int} (h : NEW s0 b p c its s) (hm : md [] [150, 151, 183] s s') : NEW s0 b p c its s' := by
  have k : ∀ a, a ∈ [142, 143, 144, 145, 146, 149, 152, 153, 154, 155, 156, 182] → s'.1 a = s.1 a := fun a ha => by
    simp only [List.mem_cons, List.not_mem_nil, or_false] at ha
    rcases ha with rfl | rfl | rfl | rfl | rfl | rfl | rfl | rfl | rfl | rfl | rfl | rfl <;> exact funext fun x => hm.c _ (by decide) (by decide) x
  unfold NEW PO at *
  rw [k 142 (by decide), k 143 (by decide), k 144 (by decide), k 145 (by decide), k 146 (by decide), k 149 (by decide), k 152 (by decide), k 153 (by decide), k 154 (by decide), k 155 (by decide), k 156 (by decide), k 182 (by decide)]
  exact h
/-- what change() leaves: bank 2 is good, the others are as they were -/
def CHD (s s' : ST) : Prop := md [] [142, 143, 144, 145, 146, 147, 148, 149, 150, 151, 152, 153, 154, 155, 156, 157, 158, 182, 183] s s' ∧ WF s' 2 ∧ (∀ x, x ≠ 2 → s'.1 142 x = s.1 142 x ∧ s'.1 143 x = s.1 143 x ∧ s'.1 144 x = s.1 144 x) ∧ (∀ z, z < 16 ∨ 24 ≤ z → s'.1 145 z = s.1 145 z ∧ s'.2 157 z = s.2 157 z) ∧ (∀ z, z < 40 ∨ 60 ≤ z → s'.1 156 z = s.1 156 z) ∧ (∀ z, z < 80 ∨ 120 ≤ z → cell6 s s' z ∧ s'.1 150 z = s.1 150 z ∧ s'.1 151 z = s.1 151 z) ∧ (∀ z, z < 240 ∨ 360 ≤ z → s'.1 152 z = s.1 152 z)
theorem c_X11_change {s0 s : ST} {b p c w its : Int} {Q : ST → Prop} (cx : CX s0 b p c w its) (hS : WQ s0 b s b) (h28 : s.1 139 28 = b) (h187 : c = 1 → s.1 187 w = its) (hno : ∀ r, 0 ≤ r → r < 40 → s.1 182 r = -1) (hQ : ∀ s', CHD s s' → NEW s0 b p c its s' → Q s') : C_X11_change s p c w Q := by
  have b01 := cx.1
  have W := cx.2.1
  refine s_X11_change fun _ _ _ _ => s_X11_clearBank fun _ _ => ⟨⟨by omega, by omega⟩, ?_⟩
  have e28 : (ui (ui (ui s 142 2 0) 143 2 0) 144 2 0).1 139 28 = b := by rw [ui_cell (by decide), ui_cell (by decide), ui_cell (by decide)]; exact h28
  have e143 : (ui (ui (ui s 142 2 0) 143 2 0) 144 2 0).1 143 b = s.1 143 b := by rw [ui_cell (by decide), ui_ne (by omega), ui_cell (by decide)]
  have e144 : (ui (ui (ui s 142 2 0) 143 2 0) 144 2 0).1 144 b = s.1 144 b := by rw [ui_ne (by omega), ui_cell (by decide), ui_cell (by decide)]
  rw [e28, e143, e144]
  refine ⟨⟨by omega, by omega⟩, ⟨by omega, by omega⟩, ?_⟩
  have m0 : md [] [142, 143, 144] s (ui (ui (ui (ui (ui s 142 2 0) 143 2 0) 144 2 0) 143 2 (s.1 143 b)) 144 2 (s.1 144 b)) := (by repeat' (first | exact md.rf | assumption | refine md.ui ?_ ?_ | refine md.uj ?_ ?_ | exact Or.inr (by decide) | exact Or.inl (by decide)))
  have g142 : (ui (ui (ui (ui (ui s 142 2 0) 143 2 0) 144 2 0) 143 2 (s.1 143 b)) 144 2 (s.1 144 b)).1 142 2 = 0 := by rw [ui_cell (by decide), ui_cell (by decide), ui_cell (by decide), ui_cell (by decide), ui_same]
  have g143 : (ui (ui (ui (ui (ui s 142 2 0) 143 2 0) 144 2 0) 143 2 (s.1 143 b)) 144 2 (s.1 144 b)).1 143 2 = s.1 143 b := by rw [ui_cell (by decide), ui_same]
  have g144 : (ui (ui (ui (ui (ui s 142 2 0) 143 2 0) 144 2 0) 143 2 (s.1 143 b)) 144 2 (s.1 144 b)).1 144 2 = s.1 144 b := ui_same
  have go : ∀ x, x ≠ 2 → (ui (ui (ui (ui (ui s 142 2 0) 143 2 0) 144 2 0) 143 2 (s.1 143 b)) 144 2 (s.1 144 b)).1 142 x = s.1 142 x ∧ (ui (ui (ui (ui (ui s 142 2 0) 143 2 0) 144 2 0) 143 2 (s.1 143 b)) 144 2 (s.1 144 b)).1 143 x = s.1 143 x ∧ (ui (ui (ui (ui (ui s 142 2 0) 143 2 0) 144 2 0) 143 2 (s.1 143 b)) 144 2 (s.1 144 b)).1 144 x = s.1 144 x := fun x hx => by
    refine ⟨?_, ?_, ?_⟩
    · rw [ui_cell (by decide), ui_cell (by decide), ui_cell (by decide), ui_cell (by decide), ui_ne hx]
    · rw [ui_cell (by decide), ui_ne hx, ui_cell (by decide), ui_ne hx, ui_cell (by decide)]
    · rw [ui_ne hx, ui_cell (by decide), ui_ne hx, ui_cell (by decide), ui_cell (by decide)]
  generalize (ui (ui (ui (ui (ui s 142 2 0) 143 2 0) 144 2 0) 143 2 (s.1 143 b)) 144 2 (s.1 144 b)) = sa at *
  have fa : FP s sa := ⟨m0.mono (by decide) (by decide), go, fun z _ => ⟨m0.c 145 (by decide) (by decide) z, m0.cj 157 (by decide) (by decide) z⟩, fun z _ => m0.c 156 (by decide) (by decide) z, fun z _ => ⟨m0.c 146 (by decide) (by decide) z, m0.c 149 (by decide) (by decide) z, m0.c 153 (by decide) (by decide) z, m0.c 154 (by decide) (by decide) z, m0.c 155 (by decide) (by decide) z, m0.cj 158 (by decide) (by decide) z⟩⟩
  have sc0 : SC s0 b c w its s := by
    refine ⟨h28, h187, fun z z0 z1 => ?_, fun z z0 z1 => ?_, fun z z0 z1 => ?_⟩
    · have := (hS.2.2.2 ((z - 120 * b) / 3) (by omega) (by omega)).2 ((z - 120 * b) % 3) (by omega) (by omega)
      rw [show 3 * (40 * b + (z - 120 * b) / 3) + (z - 120 * b) % 3 = z by omega] at this
      exact this
    · have := (hS.2.2.2 (z - 40 * b) (by omega) (by omega)).1
      rw [show 40 * b + (z - 40 * b) = z by omega] at this
      exact this.2.2.1
    · have := (hS.2.2.2 (z - 40 * b) (by omega) (by omega)).1
      rw [show 40 * b + (z - 40 * b) = z by omega] at this
      exact ⟨this.1, this.2.1, this.2.2.2.2.1, this.2.2.2.2.2.1, this.2.2.2.2.2.2⟩
  refine k_change38 cx hS (fun s1 df0 => k_change79 cx hS (fun s2 df => k_change262 cx hS df (fun s3 k8 => ?_) (s0.1 142 b).toNat s2 0 (by have := W.nn; omega) (by omega) ⟨md.rf, fun _ _ => rfl, fun r j r0 _ _ j0 _ hh => by omega⟩) (s0.1 143 b).toNat s1 0 (by have := W.nn; omega) (by omega) df0) 20 sa 0 (by omega) (by omega) fa (sc0.fp b01.2 fa) g142 (g143.trans hS.1.2.1) (g144.trans hS.1.2.2) (fun k _ _ => by omega) (fun r r0 r1 => by rw [m0.c 182 (by decide) (by decide)]; exact hno r r0 r1)
  obtain ⟨f1, sc, h142, h143, h144, h156, h145, hpo, hn2⟩ := id df
  obtain ⟨m3, k1, k2⟩ := k8
  have new : NEW s0 b p c its s3 := by
    refine ⟨?_, ?_, ?_, fun d d0 d1 => ?_, fun d d0 d1 => ?_, fun q k q0 q1 hq k0 k1 => ?_, fun k k0 k1 => ?_⟩
    · rw [m3.c 142 (by decide) (by decide)]; exact h142
    · rw [m3.c 143 (by decide) (by decide)]; exact h143
    · rw [m3.c 144 (by decide) (by decide)]; exact h144
    · rw [m3.c 145 (by decide) (by decide)]; exact h145 d d0 d1
    · have hr := W.dR d0 d1
      refine cx.keep hr.1 hr.2 (hpo d d0 d1) (fun r _ _ => m3.c 182 (by decide) (by decide) r) (fun r _ _ => ?_) (fun x _ _ => ⟨m3.c 146 (by decide) (by decide) _, m3.c 149 (by decide) (by decide) _, m3.c 153 (by decide) (by decide) _, m3.c 154 (by decide) (by decide) _, m3.c 155 (by decide) (by decide) _, m3.cj 158 (by decide) (by decide) _⟩)
      rw [show s3.1 182 = s2.1 182 from funext fun x => m3.c 182 (by decide) (by decide) x]
    · rw [m3.c 182 (by decide) (by decide)] at hq
      rw [m3.c 182 (by decide) (by decide), m3.c 182 (by decide) (by decide)]
      exact k2 q k q0 q1 hq k0 k1 (Or.inl q1)
    · rw [m3.c 156 (by decide) (by decide)]; exact h156 k k0 k1
  obtain ⟨E, wf, t5⟩ := new_good cx new
  refine c_X11_layEnds wf fun s4 m4 e4 o4 d4 => hQ s4 ?_ ?_
  rotate_left
  · exact new.keep m4
  have kk : ∀ a, a ∈ [142, 143, 144, 145, 146, 149, 152, 153, 154, 155, 156] → s4.1 a = s3.1 a := fun a ha => by
    simp only [List.mem_cons, List.not_mem_nil, or_false] at ha
    rcases ha with rfl | rfl | rfl | rfl | rfl | rfl | rfl | rfl | rfl | rfl | rfl <;> exact funext fun x => m4.c _ (by decide) (by decide) x
  have wf4 := wf.keep m4
  obtain ⟨t1, t2, t3, t4, hb2⟩ := wf4
  have e142 : s4.1 142 2 = s3.1 142 2 := by rw [kk 142 (by decide)]
  have een : ∀ x, 0 ≤ x → x < s4.1 142 2 → ben s4 2 x = E x := fun x x0 x1 => e4 x x0 (by omega)
  have W2 : WF s4 2 := by
    refine ⟨fun x x0 x1 => ?_, ?_, fun x x0 x1 => ?_, fun x x0 x1 => ?_, ?_, fun x x0 x1 => ?_, by omega⟩
    · obtain ⟨a1, a2, a3, a4, a5, a6, a7, a8⟩ := t1 x x0 x1
      have har := ar_r (bso s4 2 x)
      have hk : ∀ k, 0 ≤ k → k < ar (bso s4 2 x) → 0 ≤ bkd s4 2 x k ∧ bkd s4 2 x k < s4.1 142 2 := fun k k0 k1 => by
        have := t1.kid x0 x1 k0 k1
        omega
      rw [een x x0 x1]
      refine ⟨a1, a2, a3, a4, fun h => ?_, fun h => ?_, fun h => ?_, fun h => ?_⟩
      · have := hk 0 (by omega) (by omega)
        rw [een _ this.1 this.2]; exact a5 h
      · have := hk 0 (by omega) (by omega)
        rw [een _ this.1 this.2]; exact a6 h
      · have := hk 1 (by omega) (by omega)
        rw [een _ this.1 this.2]; exact a7 h
      · have h1 := hk 1 (by omega) (by omega)
        have h2 := hk 2 (by omega) (by omega)
        rw [een _ h1.1 h1.2, een _ h2.1 h2.2]; exact a8 h
    · obtain ⟨a1, a2, a3, a4, a5, a6⟩ := t2
      refine ⟨a1, a2, a3, fun h => ?_, a5, fun d d0 d1 => ?_⟩
      · have := a5 (s4.1 143 2 - 1) (by omega) (by omega)
        rw [een _ this.1 this.2]; exact a4 h
      · have := a5 d d0 (by omega)
        rw [een _ this.1 this.2]; exact a6 d d0 d1
    · obtain ⟨⟨a1, a2⟩, a3, a4⟩ := t3 x x0 x1
      have := t2.2.2.2.2.1 _ a1 a2
      rw [een _ this.1 this.2]; exact ⟨⟨a1, a2⟩, a3, a4⟩
    · obtain ⟨a1, a2⟩ := t4 x x0 x1
      refine ⟨fun h => ⟨fun h2 => ?_, (a1 h).2⟩, a2⟩
      obtain ⟨⟨b1, b2, b3⟩, b4⟩ := (a1 h).1 h2
      rw [een _ b1 (by omega)]; exact ⟨⟨b1, b2, b3⟩, b4⟩
    · unfold bso bkA bkL bkC at t5 ⊢
      rw [kk 142 (by decide), kk 144 (by decide), kk 146 (by decide), kk 154 (by decide), kk 155 (by decide), kk 156 (by decide)]
      exact t5
    · exact d4 x x0 (by omega)
  refine ⟨((f1.1.mono (by decide) (by decide)).tr ((m3.mono (by decide) (by decide)).tr (m4.mono (by decide) (by decide)))), W2, fun x hx => ?_, fun z hz => ?_, fun z hz => ?_, fun z hz => ?_, fun z hz => ?_⟩
  · rw [m4.c 142 (by decide) (by decide), m4.c 143 (by decide) (by decide), m4.c 144 (by decide) (by decide), m3.c 142 (by decide) (by decide), m3.c 143 (by decide) (by decide), m3.c 144 (by decide) (by decide)]
    exact f1.2.1 x hx
  · rw [m4.c 145 (by decide) (by decide), m4.cj 157 (by decide) (by decide), m3.c 145 (by decide) (by decide), m3.cj 157 (by decide) (by decide)]
    exact f1.2.2.1 z hz
  · rw [m4.c 156 (by decide) (by decide), m3.c 156 (by decide) (by decide)]; exact f1.2.2.2.1 z hz
  · obtain ⟨a1, a2, a3, a4, a5, a6⟩ := f1.2.2.2.2 z hz
    have ho := o4 z (by omega)
    refine ⟨⟨?_, ?_, ?_, ?_, ?_, ?_⟩, ?_, ?_⟩
    · rw [m4.c 146 (by decide) (by decide), m3.c 146 (by decide) (by decide)]; exact a1
    · rw [m4.c 149 (by decide) (by decide), m3.c 149 (by decide) (by decide)]; exact a2
    · rw [m4.c 153 (by decide) (by decide), m3.c 153 (by decide) (by decide)]; exact a3
    · rw [m4.c 154 (by decide) (by decide), m3.c 154 (by decide) (by decide)]; exact a4
    · rw [m4.c 155 (by decide) (by decide), m3.c 155 (by decide) (by decide)]; exact a5
    · rw [m4.cj 158 (by decide) (by decide), m3.cj 158 (by decide) (by decide)]; exact a6
    · rw [ho.1, m3.c 150 (by decide) (by decide)]; exact f1.1.c 150 (by decide) (by decide) z
    · rw [ho.2, m3.c 151 (by decide) (by decide)]; exact f1.1.c 151 (by decide) (by decide) z
  · rw [m4.c 152 (by decide) (by decide), k1 z hz]; exact f1.1.c 152 (by decide) (by decide) z
