/-! THE REFERENCE: layOut -/
theorem exw_raw (s : ST) (b p : Int) : exw (bso s b) (bbi s b) (bdR s b) (bas s b) (bkd s b) p = if s.1 146 (40 * b + p) = 2 then (if F_X11_rootOf s b p < 0 then 0 else s.1 151 (40 * b + F_X11_rootOf s b p)) else 0 := by
  unfold exw
  rw [← F_root]
  rfl
def wq (s : ST) (b q : Int) : Int := 1 + exw (bso s b) (bbi s b) (bdR s b) (bas s b) (bkd s b) q
theorem bfun_eq {fs : List (Nat × Int)} {cs : List Nat} {s s' : ST} {b : Int} (hm : md fs cs s s') (h1 : (fs.all fun q => decide (q.1 ∉ bankCells)) = true) (h2 : (cs.all fun a => decide (a ∉ bankCells)) = true) : wq s' b = wq s b := by
  have k : ∀ a, a ∈ bankCells → s'.1 a = s.1 a := fun a ha => bank_eq hm h1 h2 ha
  unfold wq bso bbi bas bkd bdR
  rw [k 145 (by decide), k 146 (by decide), k 151 (by decide), k 152 (by decide), k 153 (by decide)]
/-- a bank whose askings are 400 at most -/
def LV (s : ST) (b : Int) : Prop := WF s b ∧ sm (fun d => s.1 151 (40 * b + s.1 145 (8 * b + d))) 0 (s.1 143 b).toNat ≤ 400
section LVX
variable {s : ST} {b p : Int}
theorem exw_nn (w : WF s b) : ∀ p, 0 ≤ p → p < s.1 142 b → 0 ≤ exw (bso s b) (bbi s b) (bdR s b) (bas s b) (bkd s b) p := by
  intro p p0 p1
  rw [exw_raw]
  by_cases c : s.1 146 (40 * b + p) = 2
  · rw [if_pos c]
    by_cases d : F_X11_rootOf s b p < 0
    · rw [if_pos d]; omega
    · rw [if_neg d]
      have hr : F_X11_rootOf s b p < s.1 142 b := by
        rcases w.root p0 p1 c with ⟨_, _, h⟩ | ⟨_, _, _, _, h⟩ | ⟨_, _, _, _, h⟩ <;> omega
      have := w.as_r (p := F_X11_rootOf s b p) (by omega) hr
      omega
  · rw [if_neg c]; omega
theorem LV.asle (h : LV s b) (p0 : 0 ≤ p) (p1 : p < s.1 142 b) : s.1 151 (40 * b + p) ≤ 400 := by
  have w := h.1
  obtain ⟨⟨d0, d1⟩, d2, d3⟩ := w.dO p0 p1
  have hd := w.dR d0 d1
  have nn : ∀ i, 0 ≤ i → i < 0 + (((s.1 143 b).toNat : Nat) : Int) → 0 ≤ s.1 151 (40 * b + s.1 145 (8 * b + i)) := fun i a c => by
    have h1 := w.dR a (by omega)
    have := (w.as_r h1.1 h1.2).1
    omega
  have := sm_mem (f := fun d => s.1 151 (40 * b + s.1 145 (8 * b + d))) (lo := 0) (s.1 143 b).toNat (s.1 149 (40 * b + p)) nn d0 (by omega)
  have h2 := h.2
  have h3 : s.1 151 (40 * b + s.1 145 (8 * b + s.1 149 (40 * b + p))) ≤ 400 := by
    have h4 : (fun d => s.1 151 (40 * b + s.1 145 (8 * b + d))) (s.1 149 (40 * b + p)) = s.1 151 (40 * b + s.1 145 (8 * b + s.1 149 (40 * b + p))) := rfl
    omega
  exact as_le w.1 w.2.2.2.2.2.1 (exw_nn w) (s.1 150 (40 * b + s.1 145 (8 * b + s.1 149 (40 * b + p))) - s.1 145 (8 * b + s.1 149 (40 * b + p))).toNat _ p (by show s.1 150 _ - _ ≤ _; omega) hd.1 hd.2 h3 d2 d3
end LVX
section LVY
variable {s : ST} {b p : Int}
theorem LV.sum (h : LV s b) (p0 : 0 ≤ p) (p1 : p < s.1 142 b) : s.1 151 (40 * b + p) = sm (wq s b) p (s.1 150 (40 * b + p) - p + 1).toNat := by
  have w := h.1
  exact as_sum w.1 w.2.2.2.2.2.1 (exw_nn w) (s.1 150 (40 * b + p) - p).toNat p (by have := (w.en p0 p1).1; show s.1 150 (40 * b + p) - p ≤ _; omega) p0 p1 (h.asle p0 p1)
theorem LV.size (h : LV s b) (p0 : 0 ≤ p) (p1 : p < s.1 142 b) : s.1 150 (40 * b + p) - p + 1 ≤ s.1 151 (40 * b + p) := by
  rw [h.sum p0 p1]
  have he := h.1.en p0 p1
  have := sm_ge (f := wq s b) (lo := p) (s.1 150 (40 * b + p) - p + 1).toNat (fun i a c => by
    have := exw_nn h.1 i (by omega) (by omega)
    unfold wq; omega)
  omega
end LVY
theorem LV.keep {fs : List (Nat × Int)} {cs : List Nat} {s s' : ST} {b : Int} (h : LV s b) (hm : md fs cs s s') (h1 : (fs.all fun q => decide (q.1 ∉ bankCells)) = true) (h2 : (cs.all fun a => decide (a ∉ bankCells)) = true) : LV s' b := by
  have k : ∀ a, a ∈ bankCells → s'.1 a = s.1 a := fun a ha => bank_eq hm h1 h2 ha
  refine ⟨h.1.keep hm h1 h2, ?_⟩
  rw [k 143 (by decide), k 145 (by decide), k 151 (by decide)]
  exact h.2
def asL (s : ST) (b l : Int) : Int := s.1 151 (40 * b + s.1 170 l)
def szL (s : ST) (b l : Int) : Int := s.1 150 (40 * b + s.1 170 l) - s.1 170 l + 1
/-- what is still to be laid out -/
def JB (s : ST) (l A S R : Int) : Prop := ∃ x y z, GB s x y z ∧ x + 22 * A - 2 * S ≤ 8802 ∧ y + 3 * A ≤ 1200 ∧ z + 10 * A ≤ 4000 ∧ l + 1 + A - R ≤ 400
def J80 (s : ST) (b l A : Int) : Prop := LV s b ∧ LYI s b (s.1 143 b) ∧ NT s ∧ 0 ≤ l ∧ l ≤ s.1 139 48 ∧ A = sm (asL s b) l (s.1 139 48 - l).toNat ∧ JB s l A (sm (szL s b) l (s.1 139 48 - l).toNat) 1
def J95 (s : ST) (b l p A : Int) : Prop := LV s b ∧ LYI s b (s.1 143 b) ∧ NT s ∧ (0 ≤ l ∧ l < s.1 139 48) ∧ (s.1 170 l ≤ p ∧ p ≤ s.1 150 (40 * b + s.1 170 l) + 1) ∧ A = sm (asL s b) (l + 1) (s.1 139 48 - l - 1).toNat + sm (wq s b) p (s.1 150 (40 * b + s.1 170 l) - p + 1).toNat ∧
  JB s l A (sm (szL s b) (l + 1) (s.1 139 48 - l - 1).toNat + (s.1 150 (40 * b + s.1 170 l) - p + 1)) (s.1 150 (40 * b + s.1 170 l) - p + 1)
theorem pend_ge {s : ST} {b nd : Int} (h : LV s b) (ly : LYI s b nd) : ∀ (n : Nat) (lo : Int), 0 ≤ lo → lo + n ≤ s.1 139 48 → (n : Int) ≤ sm (asL s b) lo n ∧ sm (szL s b) lo n ≤ sm (asL s b) lo n ∧ (n : Int) ≤ sm (szL s b) lo n := by
  intro n
  induction n with
  | zero => intro lo _ _; exact ⟨Int.le_refl _, Int.le_refl _, Int.le_refl _⟩
  | succ n ih =>
    intro lo h0 h1
    have h2 := ih lo h0 (by omega)
    obtain ⟨c1, _⟩ := ly.2.2 (lo + n) (by omega) (by omega)
    have h3 := h.size c1.1 c1.2
    have h4 := h.1.en c1.1 c1.2
    show ((n + 1 : Nat) : Int) ≤ sm (asL s b) lo n + asL s b (lo + n) ∧ sm (szL s b) lo n + szL s b (lo + n) ≤ sm (asL s b) lo n + asL s b (lo + n) ∧ ((n + 1 : Nat) : Int) ≤ sm (szL s b) lo n + szL s b (lo + n)
    have e1 : asL s b (lo + n) = s.1 151 (40 * b + s.1 170 (lo + n)) := rfl
    have e2 : szL s b (lo + n) = s.1 150 (40 * b + s.1 170 (lo + n)) - s.1 170 (lo + n) + 1 := rfl
    omega
theorem rem_ge {s : ST} {b p e : Int} (h : LV s b) (p0 : 0 ≤ p) (he : e < s.1 142 b) : ((e - p + 1).toNat : Int) ≤ sm (wq s b) p (e - p + 1).toNat :=
  sm_ge _ (fun i a c => by
    have := exw_nn h.1 i (by omega) (by omega)
    unfold wq; omega)
theorem j80_95 {s : ST} {b l A : Int} (h : J80 s b l A) (hl : l < s.1 139 48) : J95 s b l (s.1 170 l) A := by
  obtain ⟨h1, h2, h3, h4, h5, h6, x, y, z, g1, g2, g3, g4, g5⟩ := h
  obtain ⟨c1, _⟩ := h2.2.2 l h4 hl
  have he := h1.1.en c1.1 c1.2
  have hs := h1.sum c1.1 c1.2
  have e1 : (s.1 139 48 - l).toNat = (s.1 139 48 - l - 1).toNat + 1 := by omega
  have a1 := sm_head (asL s b) l (s.1 139 48 - l - 1).toNat
  have a2 := sm_head (szL s b) l (s.1 139 48 - l - 1).toNat
  rw [← e1] at a1 a2
  have e2 : asL s b l = s.1 151 (40 * b + s.1 170 l) := rfl
  have e3 : szL s b l = s.1 150 (40 * b + s.1 170 l) - s.1 170 l + 1 := rfl
  exact ⟨h1, h2, h3, ⟨h4, hl⟩, ⟨by omega, by omega⟩, by omega, x, y, z, g1, by omega, g3, g4, by omega⟩
theorem k_layOut95 {b : Int} {Q : ST → Prop} : ∀ (m : Nat) (s : ST) (l p A : Int), A ≤ (m : Int) → J95 s b l p A → (∀ s', md [(139, 46), (139, 47), (139, 48)] [161, 162, 163, 166, 167, 168, 169, 170, 171, 172, 173] s s' → TI s' → LYI s' b (s'.1 143 b) → Q s') → K_X11_layOut_95 s b l p Q := by
  -- from a lay's head, when the places can be gone through
  have fin80 : ∀ (s : ST) (l A : Int), J80 s b l A → (∀ s', md [(139, 46), (139, 47), (139, 48)] [161, 162, 163, 166, 167, 168, 169, 170, 171, 172, 173] s s' → TI s' → LYI s' b (s'.1 143 b) → Q s') → (l < s.1 139 48 → K_X11_layOut_95 s b l (s.1 170 l) Q) → K_X11_layOut_80 s b l Q := by
    intro s l A j hQ hk
    obtain ⟨h1, h2, h3, h4, h5, h6, x, y, z, g1, g2, g3, g4, g5⟩ := j
    have pg := pend_ge h1 h2 (s.1 139 48 - l).toNat l h4 (by omega)
    refine s_X11_layOut_80 ?_
    (repeat' (with_reducible first | refine ⟨?_, ?_⟩ | intro _))
    all_goals first | omega | exact hk (by omega) | skip
    refine hQ s md.rf ⟨g1.1, by have := g1.2.2.2.2; omega, by have := g1.2.2.1; omega, g1.2.2.2.1⟩ h2
  intro m
  induction m with
  | zero =>
    intro s l p A hm j hQ
    obtain ⟨h1, h2, h3, h4, h5, h6, x, y, z, g1, g2, g3, g4, g5⟩ := j
    obtain ⟨c1, c2, c3, c4⟩ := h2.2.2 l h4.1 h4.2
    have he := h1.1.en c1.1 c1.2
    have hb := h1.1.bb
    have hn := h1.1.nn
    have pg := pend_ge h1 h2 (s.1 139 48 - l - 1).toNat (l + 1) (by omega) (by omega)
    have rg := rem_ge (p := p) h1 (by omega) he.2
    refine s_X11_layOut_95 ?_
    (repeat' (with_reducible first | refine ⟨?_, ?_⟩ | intro _))
    all_goals first | omega | skip
    have e0 : (s.1 139 48 - (l + 1)).toNat = (s.1 139 48 - l - 1).toNat := by omega
    refine fin80 s (l + 1) (sm (asL s b) (l + 1) (s.1 139 48 - (l + 1)).toNat) ⟨h1, h2, h3, by omega, by omega, rfl, x, y, z, g1, ?_, ?_, ?_, ?_⟩ hQ (fun hl => by omega)
    all_goals (rw [e0]; omega)
  | succ m ih =>
    -- a place of a lay
    have step : ∀ (s : ST) (l p A : Int), A ≤ ((m + 1 : Nat) : Int) → J95 s b l p A → p ≤ s.1 150 (40 * b + s.1 170 l) → (∀ s', md [(139, 46), (139, 47), (139, 48)] [161, 162, 163, 166, 167, 168, 169, 170, 171, 172, 173] s s' → TI s' → LYI s' b (s'.1 143 b) → Q s') → K_X11_layOut_95 s b l p Q := by
      intro s l p A hm j hp hQ
      obtain ⟨h1, h2, h3, h4, h5, h6, x, y, z, g1, g2, g3, g4, g5⟩ := j
      obtain ⟨c1, c2, c3, c4⟩ := h2.2.2 l h4.1 h4.2
      have he := h1.1.en c1.1 c1.2
      have hb := h1.1.bb
      have hn := h1.1.nn
      have pg := pend_ge h1 h2 (s.1 139 48 - l - 1).toNat (l + 1) (by omega) (by omega)
      have rg := rem_ge (p := p) h1 (by omega) he.2
      have rg2 := rem_ge (p := p + 1) h1 (by omega) he.2
      have rh := sm_head (wq s b) p (s.1 150 (40 * b + s.1 170 l) - (p + 1) + 1).toNat
      rw [show (s.1 150 (40 * b + s.1 170 l) - (p + 1) + 1).toNat + 1 = (s.1 150 (40 * b + s.1 170 l) - p + 1).toNat by omega] at rh
      have hw : wq s b p = 1 + (if s.1 146 (40 * b + p) = 2 then (if F_X11_rootOf s b p < 0 then 0 else s.1 151 (40 * b + F_X11_rootOf s b p)) else 0) := by unfold wq; rw [exw_raw]
      have hxr : s.1 146 (40 * b + p) = 2 → 0 ≤ F_X11_rootOf s b p → wq s b p = 1 + s.1 151 (40 * b + F_X11_rootOf s b p) ∧ s.1 150 (40 * b + F_X11_rootOf s b p) - F_X11_rootOf s b p + 1 ≤ s.1 151 (40 * b + F_X11_rootOf s b p) := by
        intro q1 q2
        rw [if_pos q1, if_neg (by omega)] at hw
        refine ⟨hw, ?_⟩
        have hr : F_X11_rootOf s b p < s.1 142 b := by
          rcases h1.1.root (by omega) (by omega) q1 with ⟨_, _, h⟩ | ⟨_, _, _, _, h⟩ | ⟨_, _, _, _, h⟩ <;> omega
        exact h1.size q2 hr
      refine s_X11_layOut_95 ?_
      (repeat' (with_reducible first | refine ⟨?_, ?_⟩ | intro _))
      all_goals first | omega | skip
      refine c_X11_layPlace h1.1 h2 h3 (by omega) (by omega) g1 (by omega) h4 ⟨h5.1, hp⟩ (by omega) (by omega) (fun q1 q2 => by have := hxr q1 q2; omega) (fun q1 s' m' n' g' => ?_) (fun q1 q2 q3 s' m' l' g' => ?_)
      · have hw1 : wq s b p = 1 := by
          rw [hw]
          by_cases q : s.1 146 (40 * b + p) = 2
          · rw [if_pos q, if_pos (q1 q)]; rfl
          · rw [if_neg q]; rfl
        have f48 := m'.f 139 48 (by decide) (by decide)
        have f170 := m'.c 170 (by decide) (by decide)
        have k : ∀ a, a ∈ bankCells → s'.1 a = s.1 a := fun a ha => bank_eq m' (by decide) (by decide) ha
        have ea : asL s' b = asL s b := funext fun l => by unfold asL; rw [f170, k 151 (by decide)]
        have es : szL s' b = szL s b := funext fun l => by unfold szL; rw [f170, k 150 (by decide)]
        have ew := bfun_eq (b := b) m' (by decide) (by decide)
        (repeat' (with_reducible first | refine ⟨?_, ?_⟩ | intro _))
        all_goals first | omega | skip
        refine ih s' l (p + 1) (A - 1) (by omega) ⟨h1.keep m' (by decide) (by decide), by rw [k 143 (by decide)]; exact h2.keep m' n' (by decide) (by decide), h3.keep m' n' (by decide) (by decide) (by decide), by rw [f48]; exact h4, ?_, ?_, x + 20, y + 3, z + 9, g', ?_, by omega, by omega, ?_⟩ (fun s2 m2 => hQ s2 ((m'.mono (by decide) (by decide)).tr m2))
        · rw [k 150 (by decide), f170]; omega
        · rw [ea, ew, f48, k 150 (by decide), f170]; omega
        · rw [es, f48, k 150 (by decide), f170]; omega
        · rw [k 150 (by decide), f170]; omega
      · obtain ⟨w1, w2⟩ := hxr q1 q2
        obtain ⟨m1, m2, m3, m4, m5⟩ := m'
        have k : ∀ a, a ∈ bankCells → s'.1 a = s.1 a := fun a ha => bank_eq m1 (by decide) (by decide) ha
        have ew := bfun_eq (b := b) m1 (by decide) (by decide)
        have el := m5 l (by omega)
        have e1 : (s'.1 139 48 - l - 1).toNat = (s.1 139 48 - l - 1).toNat + 1 := by omega
        have e2 : l + 1 + (((s.1 139 48 - l - 1).toNat : Nat) : Int) = s.1 139 48 := by omega
        have ea : sm (asL s' b) (l + 1) (s'.1 139 48 - l - 1).toNat = sm (asL s b) (l + 1) (s.1 139 48 - l - 1).toNat + s.1 151 (40 * b + F_X11_rootOf s b p) := by
          rw [e1]
          show sm (asL s' b) (l + 1) (s.1 139 48 - l - 1).toNat + asL s' b (l + 1 + (((s.1 139 48 - l - 1).toNat : Nat) : Int)) = _
          rw [e2]
          unfold asL
          rw [m4, k 151 (by decide), sm_congr (f := fun l => s.1 151 (40 * b + s'.1 170 l)) (g := fun l => s.1 151 (40 * b + s.1 170 l)) _ (fun i i0 i1 => by show s.1 151 (40 * b + s'.1 170 i) = s.1 151 (40 * b + s.1 170 i); rw [m5 i (by omega)])]
        have es : sm (szL s' b) (l + 1) (s'.1 139 48 - l - 1).toNat = sm (szL s b) (l + 1) (s.1 139 48 - l - 1).toNat + (s.1 150 (40 * b + F_X11_rootOf s b p) - F_X11_rootOf s b p + 1) := by
          rw [e1]
          show sm (szL s' b) (l + 1) (s.1 139 48 - l - 1).toNat + szL s' b (l + 1 + (((s.1 139 48 - l - 1).toNat : Nat) : Int)) = _
          rw [e2]
          unfold szL
          rw [m4, k 150 (by decide), sm_congr (f := fun l => s.1 150 (40 * b + s'.1 170 l) - s'.1 170 l + 1) (g := fun l => s.1 150 (40 * b + s.1 170 l) - s.1 170 l + 1) _ (fun i i0 i1 => by show s.1 150 (40 * b + s'.1 170 i) - s'.1 170 i + 1 = s.1 150 (40 * b + s.1 170 i) - s.1 170 i + 1; rw [m5 i (by omega)])]
        (repeat' (with_reducible first | refine ⟨?_, ?_⟩ | intro _))
        all_goals first | omega | skip
        refine ih s' l (p + 1) (A - 1) (by omega) ⟨h1.keep m1 (by decide) (by decide), by rw [k 143 (by decide)]; exact l', h3.keep m1 m2 (by decide) (by decide) (by decide), by omega, ?_, ?_, x + 2 * (s.1 150 (40 * b + F_X11_rootOf s b p) - F_X11_rootOf s b p + 1), y + 1, z, g', ?_, by omega, by omega, ?_⟩ (fun s2 m2' => hQ s2 (m1.tr m2'))
        · rw [k 150 (by decide), el]; omega
        · rw [ea, ew, k 150 (by decide), el]; omega
        · rw [es, k 150 (by decide), el]; omega
        · rw [k 150 (by decide), el]; omega
    intro s l p A hm j hQ
    by_cases hp : p ≤ s.1 150 (40 * b + s.1 170 l)
    · exact step s l p A hm j hp hQ
    · obtain ⟨h1, h2, h3, h4, h5, h6, x, y, z, g1, g2, g3, g4, g5⟩ := j
      obtain ⟨c1, c2, c3, c4⟩ := h2.2.2 l h4.1 h4.2
      have he := h1.1.en c1.1 c1.2
      have hb := h1.1.bb
      have hn := h1.1.nn
      have pg := pend_ge h1 h2 (s.1 139 48 - l - 1).toNat (l + 1) (by omega) (by omega)
      have r0 : (s.1 150 (40 * b + s.1 170 l) - p + 1).toNat = 0 := by omega
      rw [r0] at h6
      have h6 : A = sm (asL s b) (l + 1) (s.1 139 48 - l - 1).toNat + 0 := h6
      have e0 : (s.1 139 48 - (l + 1)).toNat = (s.1 139 48 - l - 1).toNat := by omega
      have j8 : J80 s b (l + 1) A := ⟨h1, h2, h3, by omega, by omega, by rw [e0]; omega, x, y, z, g1, by rw [e0]; omega, g3, g4, by omega⟩
      refine s_X11_layOut_95 ?_
      (repeat' (with_reducible first | refine ⟨?_, ?_⟩ | intro _))
      all_goals first | omega | skip
      refine fin80 s (l + 1) A j8 hQ (fun hl => ?_)
      obtain ⟨d1, _⟩ := h2.2.2 (l + 1) (by omega) hl
      have hd := h1.1.en d1.1 d1.2
      exact step s (l + 1) _ A hm (j80_95 j8 hl) hd.1 hQ
theorem k_layOut80 {b : Int} {s : ST} {A : Int} {Q : ST → Prop} (j : J80 s b 0 A) (hQ : ∀ s', md [(139, 46), (139, 47), (139, 48)] [161, 162, 163, 166, 167, 168, 169, 170, 171, 172, 173] s s' → TI s' → LYI s' b (s'.1 143 b) → Q s') : K_X11_layOut_80 s b 0 Q := by
  have hj := j
  obtain ⟨h1, h2, h3, h4, h5, h6, x, y, z, g1, g2, g3, g4, g5⟩ := j
  have pg := pend_ge h1 h2 (s.1 139 48 - 0).toNat 0 h4 (by omega)
  refine s_X11_layOut_80 ?_
  (repeat' (with_reducible first | refine ⟨?_, ?_⟩ | intro _))
  all_goals first | omega | skip
  · exact hQ s md.rf ⟨g1.1, by have := g1.2.2.2.2; omega, by have := g1.2.2.1; omega, g1.2.2.2.1⟩ h2
  · exact k_layOut95 A.toNat s 0 (s.1 170 0) A (by omega) (j80_95 hj (by omega)) hQ
theorem k_layOut44 {b : Int} {Q : ST → Prop} : ∀ (m : Nat) (s : ST) (d : Int), s.1 143 b - d = (m : Int) → 0 ≤ d → LV s b → NT s → LYI s b d → s.1 139 48 = d → GB s (2 + 2 * sm (fun d => s.1 150 (40 * b + s.1 145 (8 * b + d)) - s.1 145 (8 * b + d) + 1) 0 d.toNat) 0 0 →
    (∀ s', md [(139, 46), (139, 47), (139, 48)] [161, 162, 163, 166, 167, 168, 169, 170, 171, 172, 173] s s' → TI s' → LYI s' b (s'.1 143 b) → Q s') → K_X11_layOut_44 s b d Q := by
  have szle : ∀ (s : ST) (n : Nat), LV s b → (n : Int) ≤ s.1 143 b → 0 ≤ sm (fun d => s.1 150 (40 * b + s.1 145 (8 * b + d)) - s.1 145 (8 * b + d) + 1) 0 n ∧ sm (fun d => s.1 150 (40 * b + s.1 145 (8 * b + d)) - s.1 145 (8 * b + d) + 1) 0 n ≤ sm (fun d => s.1 151 (40 * b + s.1 145 (8 * b + d))) 0 n := by
    intro s n h
    induction n with
    | zero => intro _; exact ⟨Int.le_refl _, Int.le_refl _⟩
    | succ n ih =>
      intro hn
      have h2 := ih (by omega)
      have hd := h.1.dR (d := 0 + (n : Int)) (by omega) (by omega)
      have hs := h.size hd.1 hd.2
      have he := h.1.en hd.1 hd.2
      show 0 ≤ sm (fun d => s.1 150 (40 * b + s.1 145 (8 * b + d)) - s.1 145 (8 * b + d) + 1) 0 n + (s.1 150 (40 * b + s.1 145 (8 * b + (0 + (n : Int)))) - s.1 145 (8 * b + (0 + (n : Int))) + 1) ∧ sm (fun d => s.1 150 (40 * b + s.1 145 (8 * b + d)) - s.1 145 (8 * b + d) + 1) 0 n + (s.1 150 (40 * b + s.1 145 (8 * b + (0 + (n : Int)))) - s.1 145 (8 * b + (0 + (n : Int))) + 1) ≤ sm (fun d => s.1 151 (40 * b + s.1 145 (8 * b + d))) 0 n + s.1 151 (40 * b + s.1 145 (8 * b + (0 + (n : Int))))
      omega
  have aspre : ∀ (s : ST) (n k : Nat), LV s b → ((n + k : Nat) : Int) ≤ s.1 143 b → sm (fun d => s.1 151 (40 * b + s.1 145 (8 * b + d))) 0 n ≤ sm (fun d => s.1 151 (40 * b + s.1 145 (8 * b + d))) 0 (n + k) := by
    intro s n k h
    induction k with
    | zero => intro _; exact Int.le_refl _
    | succ k ih =>
      intro hn
      have h2 := ih (by omega)
      have hd := h.1.dR (d := 0 + ((n + k : Nat) : Int)) (by omega) (by omega)
      have hs := (h.1.as_r hd.1 hd.2).1
      show _ ≤ sm (fun d => s.1 151 (40 * b + s.1 145 (8 * b + d))) 0 (n + k) + s.1 151 (40 * b + s.1 145 (8 * b + (0 + ((n + k : Nat) : Int))))
      omega
  intro m
  induction m with
  | zero =>
    intro s d hm d0 h nt ly hM gb hQ
    have hb := h.1.bb
    have hn := h.1.nn
    obtain rfl : d = s.1 143 b := by omega
    have h2 := szle s (s.1 143 b).toNat h (by omega)
    have h3 := h.2
    have ea : sm (asL s b) 0 (s.1 139 48 - 0).toNat = sm (fun d => s.1 151 (40 * b + s.1 145 (8 * b + d))) 0 (s.1 143 b).toNat := by
      rw [show (s.1 139 48 - 0).toNat = (s.1 143 b).toNat by omega]
      exact sm_congr _ (fun i i0 i1 => by show s.1 151 (40 * b + s.1 170 i) = _; rw [ly.2.1 i (by omega) (by omega)])
    have es : sm (szL s b) 0 (s.1 139 48 - 0).toNat = sm (fun d => s.1 150 (40 * b + s.1 145 (8 * b + d)) - s.1 145 (8 * b + d) + 1) 0 (s.1 143 b).toNat := by
      rw [show (s.1 139 48 - 0).toNat = (s.1 143 b).toNat by omega]
      exact sm_congr _ (fun i i0 i1 => by show s.1 150 (40 * b + s.1 170 i) - s.1 170 i + 1 = _; rw [ly.2.1 i (by omega) (by omega)])
    refine s_X11_layOut_44 ?_
    (repeat' (with_reducible first | refine ⟨?_, ?_⟩ | intro _))
    all_goals first | omega | skip
    exact k_layOut80 (A := sm (asL s b) 0 (s.1 139 48 - 0).toNat) ⟨h, ly, nt, by omega, by omega, rfl, _, _, _, gb, by rw [ea, es]; omega, by rw [ea]; omega, by rw [ea]; omega, by rw [ea]; omega⟩ hQ
  | succ m ih =>
    intro s d hm d0 h nt ly hM gb hQ
    have hb := h.1.bb
    have hn := h.1.nn
    have hd := h.1.dR d0 (by omega)
    have he := h.1.en hd.1 hd.2
    have h2 := szle s (d + 1).toNat h (by omega)
    have h3 := h.2
    have h4 := aspre s (d + 1).toNat ((s.1 143 b).toNat - (d + 1).toNat) h (by omega)
    rw [show (d + 1).toNat + ((s.1 143 b).toNat - (d + 1).toNat) = (s.1 143 b).toNat by omega] at h4
    have e1 : (d + 1).toNat = d.toNat + 1 := by omega
    have e2 : 0 + ((d.toNat : Nat) : Int) = d := by omega
    have es : sm (fun d => s.1 150 (40 * b + s.1 145 (8 * b + d)) - s.1 145 (8 * b + d) + 1) 0 (d + 1).toNat = sm (fun d => s.1 150 (40 * b + s.1 145 (8 * b + d)) - s.1 145 (8 * b + d) + 1) 0 d.toNat + (s.1 150 (40 * b + s.1 145 (8 * b + d)) - s.1 145 (8 * b + d) + 1) := by
      rw [e1]
      show _ + (s.1 150 (40 * b + s.1 145 (8 * b + (0 + ((d.toNat : Nat) : Int)))) - s.1 145 (8 * b + (0 + ((d.toNat : Nat) : Int))) + 1) = _
      rw [e2]
    refine s_X11_layOut_44 ?_
    (repeat' (with_reducible first | refine ⟨?_, ?_⟩ | intro _))
    all_goals first | omega | skip
    refine c_X11_beginsLay h.1 hd.1 hd.2 (by omega) gb (by omega) fun s1 m1 n1 M1 q1 q2 g1 => ?_
    have gg := gb.1.1
    obtain ⟨-, ly1⟩ := ly.grow h.1 hd.1 hd.2 (by omega) m1 n1 M1 q1 q2 (Or.inl ⟨d, d0, by omega, rfl⟩)
    have ly1 := ly1 (by omega) (by omega) rfl
    have k : ∀ a, a ∈ bankCells → s1.1 a = s.1 a := fun a ha => bank_eq m1 (by decide) (by decide) ha
    (repeat' (with_reducible first | refine ⟨?_, ?_⟩ | intro _))
    all_goals first | omega | skip
    refine ih s1 (d + 1) (by rw [k 143 (by decide)]; omega) (by omega) (h.keep m1 (by decide) (by decide)) (nt.keep m1 (by omega) (by decide) (by decide) (by decide)) ly1 (by omega) ?_ (fun s' m' => hQ s' ((m1.mono (by decide) (by decide)).tr m'))
    rw [k 145 (by decide), k 150 (by decide), es]
    exact g1.le (by omega) (by omega) (by omega)
theorem c_X11_layOut {s : ST} {b : Int} {Q : ST → Prop} (h : LV s b) (hQ : ∀ s', md [(139, 46), (139, 47), (139, 48), (139, 49), (139, 50), (139, 51)] [161, 162, 163, 166, 167, 168, 169, 170, 171, 172, 173] s s' → s'.1 139 49 = b → TI s' → LYI s' b (s'.1 143 b) → Q s') : C_X11_layOut s b Q := by
  have g0 : GB (ui (ui (ui (ui s 139 49 b) 139 46 0) 139 47 0) 139 48 0) 0 0 0 := by
    have e46 : (ui (ui (ui (ui s 139 49 b) 139 46 0) 139 47 0) 139 48 0).1 139 46 = 0 := by rw [ui_ne (by decide), ui_ne (by decide), ui_same]
    have e47 : (ui (ui (ui (ui s 139 49 b) 139 46 0) 139 47 0) 139 48 0).1 139 47 = 0 := by rw [ui_ne (by decide), ui_same]
    unfold GB
    rw [e46, e47]
    exact ⟨⟨by omega, fun t _ _ => by omega⟩, by omega, by omega, fun k _ _ => by omega, Int.le_refl 0⟩
  have e46 : (ui (ui (ui (ui s 139 49 b) 139 46 0) 139 47 0) 139 48 0).1 139 46 = 0 := by rw [ui_ne (by decide), ui_ne (by decide), ui_same]
  have e48 : (ui (ui (ui (ui s 139 49 b) 139 46 0) 139 47 0) 139 48 0).1 139 48 = 0 := ui_same
  have e49 : (ui (ui (ui (ui s 139 49 b) 139 46 0) 139 47 0) 139 48 0).1 139 49 = b := by rw [ui_ne (by decide), ui_ne (by decide), ui_ne (by decide), ui_same]
  have m0 : md [(139, 46), (139, 47), (139, 48), (139, 49)] [] s (ui (ui (ui (ui s 139 49 b) 139 46 0) 139 47 0) 139 48 0) := (by repeat' (first | exact md.rf | assumption | refine md.ui ?_ ?_ | refine md.uj ?_ ?_ | exact Or.inr (by decide) | exact Or.inl (by decide)))
  refine s_X11_layOut fun _ _ => ?_
  generalize (ui (ui (ui (ui s 139 49 b) 139 46 0) 139 47 0) 139 48 0) = s0 at *
  refine c_X11_term g0 (by omega) (by omega) (by omega) (by omega) fun s1 m1 n1 g1 => ?_
  have g1' : GB (ui s1 139 50 (s0.1 139 46)) 1 0 0 := (g1.le (by omega) (by omega) (by rw [if_neg (by omega)]; omega)).keep (fs := [(139, 50)]) (cs := []) (by repeat' (first | exact md.rf | assumption | refine md.ui ?_ ?_ | refine md.uj ?_ ?_ | exact Or.inr (by decide) | exact Or.inl (by decide))) (by decide) (by decide)
  have e1 : (ui s1 139 50 (s0.1 139 46)).1 139 46 = s1.1 139 46 := ui_ne (by decide)
  refine c_X11_term g1' (by omega) (by omega) (by omega) (by omega) fun s2 m2 n2 g2 => ?_
  have m3 : md [(139, 46), (139, 50), (139, 51)] [161, 162, 163] s0 (ui s2 139 51 ((ui s1 139 50 (s0.1 139 46)).1 139 46)) := ((m1.mono (by decide) (by decide)).tr ((md.rf.ui (Or.inl (by decide))).tr (m2.mono (by decide) (by decide)))).tr (md.rf.ui (Or.inl (by decide)))
  have f46 : (ui s2 139 51 ((ui s1 139 50 (s0.1 139 46)).1 139 46)).1 139 46 = 2 := by rw [ui_ne (by decide)]; omega
  have f50 : (ui s2 139 51 ((ui s1 139 50 (s0.1 139 46)).1 139 46)).1 139 50 = 0 := by rw [ui_ne (by decide), m2.f 139 50 (by decide) (by decide), ui_same]; exact e46
  have f51 : (ui s2 139 51 ((ui s1 139 50 (s0.1 139 46)).1 139 46)).1 139 51 = 1 := by rw [ui_same]; omega
  have g3 : GB (ui s2 139 51 ((ui s1 139 50 (s0.1 139 46)).1 139 46)) 2 0 0 := (g2.le (by omega) (by omega) (by rw [if_neg (by omega)]; omega)).keep (fs := [(139, 51)]) (cs := []) (by repeat' (first | exact md.rf | assumption | refine md.ui ?_ ?_ | refine md.uj ?_ ?_ | exact Or.inr (by decide) | exact Or.inl (by decide))) (by decide) (by decide)
  generalize (ui s2 139 51 ((ui s1 139 50 (s0.1 139 46)).1 139 46)) = s3 at *
  have m03 := (m0.mono (fs' := [(139, 46), (139, 47), (139, 48), (139, 49), (139, 50), (139, 51)]) (cs' := [161, 162, 163, 166, 167, 168, 169, 170, 171, 172, 173]) (by decide) (by decide)).tr (m3.mono (by decide) (by decide))
  have l3 := h.keep m03 (by decide) (by decide)
  have hn := l3.1.nn
  have f48 : s3.1 139 48 = 0 := by rw [m3.f 139 48 (by decide) (by decide)]; exact e48
  refine k_layOut44 (s3.1 143 b).toNat s3 0 (by omega) (by omega) l3 ⟨by omega, by omega⟩ ⟨by omega, fun d _ _ => by omega, fun l _ _ => by omega⟩ f48 (g3.le (by show (2 : Int) ≤ 2 + 2 * 0; omega) (by omega) (by omega)) (fun s' m' t' l' => hQ s' (m03.tr (m'.mono (by decide) (by decide))) ?_ t' l')
  rw [m'.f 139 49 (by decide) (by decide), m3.f 139 49 (by decide) (by decide)]; exact e49
