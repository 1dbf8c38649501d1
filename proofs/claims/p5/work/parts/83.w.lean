/-! THE REFERENCE: what a good bank is; terms, asks and lays are made -/
def bso (s : ST) (b : Int) : Int → Int := fun p => s.1 146 (40 * b + p)
def ben (s : ST) (b : Int) : Int → Int := fun p => s.1 150 (40 * b + p)
def bas (s : ST) (b : Int) : Int → Int := fun p => s.1 151 (40 * b + p)
def bbi (s : ST) (b : Int) : Int → Int := fun p => s.1 153 (40 * b + p)
def bkA (s : ST) (b : Int) : Int → Int := fun p => s.1 154 (40 * b + p)
def bkL (s : ST) (b : Int) : Int → Int := fun p => s.1 155 (40 * b + p)
def bdO (s : ST) (b : Int) : Int → Int := fun p => s.1 149 (40 * b + p)
def bkd (s : ST) (b : Int) : Int → Int → Int := fun p k => s.1 152 (3 * (40 * b + p) + k)
def bdR (s : ST) (b : Int) : Int → Int := fun d => s.1 145 (8 * b + d)
def bkC (s : ST) (b : Int) : Int → Int := fun k => s.1 156 (20 * b + k)
def WF (s : ST) (b : Int) : Prop := T1 (bso s b) (ben s b) (bkd s b) (s.1 142 b) ∧ T2 (bdR s b) (ben s b) (s.1 143 b) (s.1 142 b) ∧ T3 (bdO s b) (bdR s b) (ben s b) (s.1 143 b) (s.1 142 b) ∧ T4 (bso s b) (ben s b) (bbi s b) (bdO s b) (bkd s b) (s.1 142 b) ∧ T5 (bso s b) (bkA s b) (bkL s b) (bkC s b) (s.1 142 b) (s.1 144 b) ∧ T6 (bso s b) (bbi s b) (bdR s b) (bas s b) (bkd s b) (s.1 142 b) ∧ (0 ≤ b ∧ b < 6)
theorem bank_eq {fs : List (Nat × Int)} {cs : List Nat} {s s' : ST} (hm : md fs cs s s') (h1 : (fs.all fun q => decide (q.1 ∉ bankCells)) = true) (h2 : (cs.all fun a => decide (a ∉ bankCells)) = true) {a : Nat} (ha : a ∈ bankCells) : s'.1 a = s.1 a := by
  funext x
  refine (hm a x (fun q => ?_) (fun q => ?_)).1
  · exact of_decide_eq_true (List.all_eq_true.mp h1 _ q) ha
  · exact of_decide_eq_true (List.all_eq_true.mp h2 _ q) ha
theorem WF.keep {fs : List (Nat × Int)} {cs : List Nat} {s s' : ST} {b : Int} (h : WF s b) (hm : md fs cs s s') (h1 : (fs.all fun q => decide (q.1 ∉ bankCells)) = true) (h2 : (cs.all fun a => decide (a ∉ bankCells)) = true) : WF s' b := by
  have k : ∀ a, a ∈ bankCells → s'.1 a = s.1 a := fun a ha => bank_eq hm h1 h2 ha
  unfold WF bso ben bas bbi bkA bkL bdO bkd bdR bkC at *
  rw [k 142 (by decide), k 143 (by decide), k 144 (by decide), k 145 (by decide), k 146 (by decide), k 149 (by decide), k 150 (by decide), k 151 (by decide), k 152 (by decide), k 153 (by decide), k 154 (by decide), k 155 (by decide), k 156 (by decide)]
  exact h
section WFX
variable {s : ST} {b p q k d : Int}
theorem WF.bb (h : WF s b) : 0 ≤ b ∧ b < 6 := h.2.2.2.2.2.2
theorem WF.nn (h : WF s b) : (0 ≤ s.1 143 b ∧ s.1 143 b ≤ 8) ∧ (0 ≤ s.1 142 b ∧ s.1 142 b ≤ 40) := ⟨h.2.1.1, h.2.1.2.1⟩
theorem WF.so (h : WF s b) (p0 : 0 ≤ p) (p1 : p < s.1 142 b) : 0 ≤ s.1 146 (40 * b + p) ∧ s.1 146 (40 * b + p) ≤ 16 := (h.1 p p0 p1).1
theorem WF.en (h : WF s b) (p0 : 0 ≤ p) (p1 : p < s.1 142 b) : p ≤ s.1 150 (40 * b + p) ∧ s.1 150 (40 * b + p) < s.1 142 b := (h.1 p p0 p1).2.1
theorem WF.kid (h : WF s b) (p0 : 0 ≤ p) (p1 : p < s.1 142 b) (k0 : 0 ≤ k) (k1 : k < ar (s.1 146 (40 * b + p))) : p < s.1 152 (3 * (40 * b + p) + k) ∧ s.1 152 (3 * (40 * b + p) + k) ≤ s.1 150 (40 * b + s.1 152 (3 * (40 * b + p) + k)) ∧ s.1 150 (40 * b + s.1 152 (3 * (40 * b + p) + k)) ≤ s.1 150 (40 * b + p) ∧ s.1 152 (3 * (40 * b + p) + k) < s.1 142 b := h.1.kid p0 p1 k0 k1
theorem WF.le (h : WF s b) (q0 : 0 ≤ q) (q1 : q < s.1 142 b) (h2 : q ≤ p) (h3 : p ≤ s.1 150 (40 * b + q)) : s.1 150 (40 * b + p) ≤ s.1 150 (40 * b + q) := h.1.le q0 q1 h2 h3
theorem WF.dR (h : WF s b) (d0 : 0 ≤ d) (d1 : d < s.1 143 b) : 0 ≤ s.1 145 (8 * b + d) ∧ s.1 145 (8 * b + d) < s.1 142 b := h.2.1.2.2.2.2.1 d d0 d1
theorem WF.dO (h : WF s b) (p0 : 0 ≤ p) (p1 : p < s.1 142 b) : (0 ≤ s.1 149 (40 * b + p) ∧ s.1 149 (40 * b + p) < s.1 143 b) ∧ (s.1 145 (8 * b + s.1 149 (40 * b + p)) ≤ p ∧ p ≤ s.1 150 (40 * b + s.1 145 (8 * b + s.1 149 (40 * b + p)))) := h.2.2.1 p p0 p1
theorem WF.sep (h : WF s b) (q0 : 0 ≤ q) (d0 : 0 ≤ d) (d1 : d < s.1 143 b) (hq : q < s.1 145 (8 * b + d)) : s.1 150 (40 * b + q) < s.1 145 (8 * b + d) := def_sep h.1 h.2.1 h.2.2.1 q0 d0 d1 hq
theorem WF.name (h : WF s b) (p0 : 0 ≤ p) (p1 : p < s.1 142 b) (e : s.1 146 (40 * b + p) = 2) : (s.1 153 (40 * b + p) < 100 → (0 ≤ s.1 153 (40 * b + p) ∧ s.1 153 (40 * b + p) < p ∧ p ≤ s.1 150 (40 * b + s.1 153 (40 * b + p))) ∧ (s.1 146 (40 * b + s.1 153 (40 * b + p)) = 3 ∨ s.1 146 (40 * b + s.1 153 (40 * b + p)) = 4 ∧ s.1 152 (3 * (40 * b + s.1 153 (40 * b + p)) + 1) ≤ p)) ∧ (100 ≤ s.1 153 (40 * b + p) → s.1 153 (40 * b + p) - 100 < s.1 149 (40 * b + p)) := (h.2.2.2.1 p p0 p1).1 e
theorem WF.noname (h : WF s b) (p0 : 0 ≤ p) (p1 : p < s.1 142 b) (e : s.1 146 (40 * b + p) ≠ 2) : s.1 153 (40 * b + p) = -1 := (h.2.2.2.1 p p0 p1).2 e
theorem WF.as_r (h : WF s b) (p0 : 0 ≤ p) (p1 : p < s.1 142 b) : 1 ≤ s.1 151 (40 * b + p) ∧ s.1 151 (40 * b + p) ≤ 1000000 := (h.2.2.2.2.2.1 p p0 p1).1
theorem WF.told (h : WF s b) (p0 : 0 ≤ p) (p1 : p < s.1 142 b) (e : s.1 146 (40 * b + p) = 16) : (0 ≤ s.1 154 (40 * b + p) ∧ 1 ≤ s.1 155 (40 * b + p) ∧ s.1 154 (40 * b + p) + s.1 155 (40 * b + p) ≤ s.1 144 b) ∧ KW (bkC s b) (s.1 154 (40 * b + p)) (s.1 155 (40 * b + p)) := h.2.2.2.2.1.2.2 p p0 p1 e
theorem WF.nK (h : WF s b) : 0 ≤ s.1 144 b ∧ s.1 144 b ≤ 20 := h.2.2.2.2.1.1
theorem WF.kC (h : WF s b) (k0 : 0 ≤ k) (k1 : k < s.1 144 b) : 0 ≤ s.1 156 (20 * b + k) ∧ s.1 156 (20 * b + k) ≤ 5 := h.2.2.2.2.1.2.1 k k0 k1
theorem ar3 : ar 3 = 1 := by decide
theorem ar4 : ar 4 = 2 := by decide
theorem ar2 : ar 2 = 0 := by decide
theorem F_root (s : ST) (b p : Int) : F_X11_rootOf s b p = rt (bso s b) (bbi s b) (bdR s b) (bkd s b) p := by
  unfold F_X11_rootOf rt bso bbi bdR bkd
  by_cases c : s.1 153 (40 * b + p) < 100
  · rw [if_pos c, if_pos c]
    by_cases d : s.1 146 (40 * b + s.1 153 (40 * b + p)) = 4
    · rw [if_pos d, if_pos d, Int.add_zero]
    · rw [if_neg d, if_neg d]
  · rw [if_neg c, if_neg c, Int.add_sub_assoc]
/-- the three kinds of NAMES -/
theorem WF.root (h : WF s b) (p0 : 0 ≤ p) (p1 : p < s.1 142 b) (e : s.1 146 (40 * b + p) = 2) :
    (s.1 153 (40 * b + p) < 100 ∧ s.1 146 (40 * b + s.1 153 (40 * b + p)) = 3 ∧ F_X11_rootOf s b p = -1) ∨
    (s.1 153 (40 * b + p) < 100 ∧ s.1 146 (40 * b + s.1 153 (40 * b + p)) = 4 ∧ F_X11_rootOf s b p = s.1 153 (40 * b + p) + 1 ∧ s.1 152 (3 * (40 * b + s.1 153 (40 * b + p)) + 0) = s.1 153 (40 * b + p) + 1 ∧ F_X11_rootOf s b p < s.1 142 b) ∨
    (100 ≤ s.1 153 (40 * b + p) ∧ (0 ≤ s.1 153 (40 * b + p) - 100 ∧ s.1 153 (40 * b + p) - 100 < s.1 143 b) ∧ F_X11_rootOf s b p = s.1 145 (8 * b + (s.1 153 (40 * b + p) - 100)) ∧ 0 ≤ F_X11_rootOf s b p ∧ F_X11_rootOf s b p < s.1 142 b) := by
  have hn := h.name p0 p1 e
  rw [F_root]
  unfold rt bso bbi bdR bkd
  by_cases c : s.1 153 (40 * b + p) < 100
  · obtain ⟨⟨a1, a2, a3⟩, a4⟩ := hn.1 c
    rw [if_pos c]
    rcases a4 with a4 | ⟨a4, a5⟩
    · refine Or.inl ⟨c, a4, ?_⟩
      rw [if_neg (by omega)]
    · have hk := (h.1 _ a1 (by omega)).2.2.2.1 (show 1 ≤ ar (s.1 146 (40 * b + s.1 153 (40 * b + p))) by rw [a4]; decide)
      have hk : s.1 152 (3 * (40 * b + s.1 153 (40 * b + p)) + 0) = s.1 153 (40 * b + p) + 1 := hk.1
      refine Or.inr (Or.inl ⟨c, a4, ?_, hk, ?_⟩)
      · rw [if_pos a4]; exact hk
      · rw [if_pos a4, hk]; omega
  · rw [if_neg c]
    have hd := hn.2 (by omega)
    have ho := h.dO p0 p1
    have hr := h.dR (d := s.1 153 (40 * b + p) - 100) (by omega) (by omega)
    exact Or.inr (Or.inr ⟨by omega, ⟨by omega, by omega⟩, rfl, hr.1, hr.2⟩)
end WFX
/-! terms and asks within bounds -/
def GB (s : ST) (x y z : Int) : Prop := TV s (s.1 139 46) ∧ s.1 139 46 ≤ x ∧ (0 ≤ s.1 139 47 ∧ s.1 139 47 ≤ y) ∧ (∀ k, 0 ≤ k → k < s.1 139 47 → (0 ≤ s.1 168 k ∧ s.1 168 k < s.1 139 46) ∧ (0 ≤ s.1 169 k ∧ s.1 169 k < s.1 139 46)) ∧ (bins s (s.1 139 46) : Int) ≤ z
theorem GB.le {s : ST} {x y z x' y' z' : Int} (h : GB s x y z) (hx : x ≤ x') (hy : y ≤ y') (hz : z ≤ z') : GB s x' y' z' := ⟨h.1, by have := h.2.1; omega, ⟨h.2.2.1.1, by have := h.2.2.1.2; omega⟩, h.2.2.2.1, by have := h.2.2.2.2; omega⟩
theorem GB.keep {fs : List (Nat × Int)} {cs : List Nat} {s s' : ST} {x y z : Int} (h : GB s x y z) (hm : md fs cs s s') (h1 : (fs.all fun q => decide (q ∉ [((139 : Nat), (46 : Int)), (139, 47)]) && decide (q.1 ∉ [161, 162, 163, 168, 169])) = true) (h2 : (cs.all fun a => decide (a ∉ [139, 161, 162, 163, 168, 169])) = true) : GB s' x y z := by
  have cell : ∀ a, a ∈ [161, 162, 163, 168, 169] → ∀ t, s'.1 a t = s.1 a t := fun a ha t => (hm a t (fun q => by
    have := List.all_eq_true.mp h1 _ q
    rw [Bool.and_eq_true, decide_eq_true_eq, decide_eq_true_eq] at this
    exact this.2 ha) (fun q => by
    have := of_decide_eq_true (List.all_eq_true.mp h2 _ q)
    exact this (List.mem_cons_of_mem _ ha))).1
  have fld : ∀ f, f ∈ [(46 : Int), 47] → s'.1 139 f = s.1 139 f := fun f hf => (hm 139 f (fun q => by
    have := List.all_eq_true.mp h1 _ q
    rw [Bool.and_eq_true, decide_eq_true_eq, decide_eq_true_eq] at this
    refine this.1 ?_
    simp only [List.mem_cons, List.not_mem_nil, or_false, Prod.mk.injEq, true_and] at hf ⊢
    exact hf) (fun q => by
    have := of_decide_eq_true (List.all_eq_true.mp h2 _ q)
    exact this (by decide))).1
  unfold GB at *
  rw [fld 46 (by decide), fld 47 (by decide), bins_eq (fun t => cell 161 (by decide) t)]
  obtain ⟨⟨a1, a2⟩, a3, a4, a5, a6⟩ := h
  refine ⟨⟨a1, fun t t0 t1 => ?_⟩, a3, a4, fun k k0 k1 => ?_, a6⟩
  · rw [cell 161 (by decide), cell 162 (by decide), cell 163 (by decide)]; exact a2 t t0 t1
  · rw [cell 168 (by decide), cell 169 (by decide)]; exact a5 k k0 k1
theorem c_X11_term {s : ST} {p q u x y z : Int} {Q : ST → Int → Prop} (h : GB s x y z) (hx : x < 12000) (hp : 0 ≤ p ∧ p ≤ 5) (hq : 0 ≤ q ∧ q ≤ s.1 139 46) (hu : 0 ≤ u ∧ u ≤ s.1 139 46) (hQ : ∀ s', md [(139, 46)] [161, 162, 163] s s' → s'.1 139 46 = s.1 139 46 + 1 → GB s' (x + 1) y (z + (if 4 ≤ p then 1 else 0)) → Q s' (s.1 139 46)) : C_X11_term s p q u Q := by
  obtain ⟨⟨a1, a2⟩, a3, a4, a5, a6⟩ := id h
  refine s_X11_term ?_
  (repeat' (with_reducible first | refine ⟨?_, ?_⟩ | intro _))
  all_goals first | omega | skip
  rw [show s.1 139 46 + 1 - 1 = s.1 139 46 by omega]
  refine hQ _ (by repeat' (first | exact md.rf | assumption | refine md.ui ?_ ?_ | refine md.uj ?_ ?_ | exact Or.inr (by decide) | exact Or.inl (by decide))) ui_same ?_
  unfold GB
  have f46 : (ui (ui (ui (ui s 161 (s.1 139 46) p) 162 (s.1 139 46) q) 163 (s.1 139 46) u) 139 46 (s.1 139 46 + 1)).1 139 46 = s.1 139 46 + 1 := ui_same
  have f47 : (ui (ui (ui (ui s 161 (s.1 139 46) p) 162 (s.1 139 46) q) 163 (s.1 139 46) u) 139 46 (s.1 139 46 + 1)).1 139 47 = s.1 139 47 := by rw [ui_ne (by decide), ui_cell (by decide), ui_cell (by decide), ui_cell (by decide)]
  rw [f46, f47]
  have c1 : ∀ t, (ui (ui (ui (ui s 161 (s.1 139 46) p) 162 (s.1 139 46) q) 163 (s.1 139 46) u) 139 46 (s.1 139 46 + 1)).1 161 t = if t = s.1 139 46 then p else s.1 161 t := fun t => by
    rw [ui_cell (by decide), ui_cell (by decide), ui_cell (by decide)]
    by_cases e : t = s.1 139 46
    · rw [if_pos e, e, ui_same]
    · rw [if_neg e, ui_ne e]
  have c2 : ∀ t, (ui (ui (ui (ui s 161 (s.1 139 46) p) 162 (s.1 139 46) q) 163 (s.1 139 46) u) 139 46 (s.1 139 46 + 1)).1 162 t = if t = s.1 139 46 then q else s.1 162 t := fun t => by
    rw [ui_cell (by decide), ui_cell (by decide)]
    by_cases e : t = s.1 139 46
    · rw [if_pos e, e, ui_same]
    · rw [if_neg e, ui_ne e, ui_cell (by decide)]
  have c3 : ∀ t, (ui (ui (ui (ui s 161 (s.1 139 46) p) 162 (s.1 139 46) q) 163 (s.1 139 46) u) 139 46 (s.1 139 46 + 1)).1 163 t = if t = s.1 139 46 then u else s.1 163 t := fun t => by
    rw [ui_cell (by decide)]
    by_cases e : t = s.1 139 46
    · rw [if_pos e, e, ui_same]
    · rw [if_neg e, ui_ne e, ui_cell (by decide), ui_cell (by decide)]
  have c8 : ∀ c t, c ≠ 161 → c ≠ 162 → c ≠ 163 → c ≠ 139 → (ui (ui (ui (ui s 161 (s.1 139 46) p) 162 (s.1 139 46) q) 163 (s.1 139 46) u) 139 46 (s.1 139 46 + 1)).1 c t = s.1 c t := fun c t e1 e2 e3 e4 => by rw [ui_cell e4, ui_cell e3, ui_cell e2, ui_cell e1]
  generalize (ui (ui (ui (ui s 161 (s.1 139 46) p) 162 (s.1 139 46) q) 163 (s.1 139 46) u) 139 46 (s.1 139 46 + 1)) = s9 at *
  refine ⟨⟨by omega, fun t t0 t1 => ?_⟩, by omega, a4, fun k k0 k1 => ?_, ?_⟩
  · rw [c1, c2, c3]
    by_cases e : t = s.1 139 46
    · rw [if_pos e, if_pos e, if_pos e]; omega
    · rw [if_neg e, if_neg e, if_neg e]
      have := a2 t t0 (by omega)
      omega
  · rw [c8 168 k (by decide) (by decide) (by decide) (by decide), c8 169 k (by decide) (by decide) (by decide) (by decide)]
    have := a5 k k0 k1
    omega
  · have e1 : (s.1 139 46 + 1).toNat = (s.1 139 46).toNat + 1 := by omega
    have e2 : (((s.1 139 46).toNat : Nat) : Int) = s.1 139 46 := by omega
    unfold bins at a6 ⊢
    rw [e1]
    show ((cn (fun t => decide (4 ≤ s9.1 161 t)) (s.1 139 46).toNat + (if decide (4 ≤ s9.1 161 (((s.1 139 46).toNat : Nat) : Int)) = true then 1 else 0) : Nat) : Int) ≤ _
    rw [e2, c1, if_pos rfl]
    have e3 : cn (fun t => decide (4 ≤ s9.1 161 t)) (s.1 139 46).toNat = cn (fun t => decide (4 ≤ s.1 161 t)) (s.1 139 46).toNat := cn_congr _ (fun i i0 i1 => by show decide (4 ≤ s9.1 161 i) = decide (4 ≤ s.1 161 i); rw [c1, if_neg (by omega)])
    rw [e3]
    by_cases c : 4 ≤ p
    · rw [if_pos (decide_eq_true c), if_pos c]; omega
    · rw [if_neg (by rw [decide_eq_true_eq]; exact c), if_neg c]; omega
theorem c_X11_openTerm {s : ST} {x y z : Int} {Q : ST → Int → Prop} (h : GB s x y z) (hx : x < 12000) (hQ : ∀ s', md [(139, 46)] [161, 162, 163] s s' → s'.1 139 46 = s.1 139 46 + 1 → GB s' (x + 1) y z → Q s' (s.1 139 46)) : C_X11_openTerm s Q := by
  have := h.1.1
  exact s_X11_openTerm fun _ => c_X11_term h hx (by omega) (by omega) (by omega) fun s' m n g => hQ s' m n (g.le (by omega) (by omega) (by rw [if_neg (by omega)]; omega))
theorem c_X11_ask {s : ST} {p q u x y z : Int} {Q : ST → Prop} (h : GB s x y z) (hy : y < 1300) (hq : 0 ≤ q ∧ q < s.1 139 46) (hu : 0 ≤ u ∧ u < s.1 139 46) (hQ : ∀ s', md [(139, 47)] [167, 168, 169] s s' → GB s' x (y + 1) z → Q s') : C_X11_ask s p q u Q := by
  obtain ⟨⟨a1, a2⟩, a3, a4, a5, a6⟩ := id h
  refine s_X11_ask ?_
  (repeat' (with_reducible first | refine ⟨?_, ?_⟩ | intro _))
  all_goals first | omega | skip
  refine hQ _ (by repeat' (first | exact md.rf | assumption | refine md.ui ?_ ?_ | refine md.uj ?_ ?_ | exact Or.inr (by decide) | exact Or.inl (by decide))) ?_
  unfold GB
  have f46 : (ui (ui (ui (ui s 167 (s.1 139 47) p) 168 (s.1 139 47) q) 169 (s.1 139 47) u) 139 47 (s.1 139 47 + 1)).1 139 46 = s.1 139 46 := by rw [ui_ne (by decide), ui_cell (by decide), ui_cell (by decide), ui_cell (by decide)]
  have f47 : (ui (ui (ui (ui s 167 (s.1 139 47) p) 168 (s.1 139 47) q) 169 (s.1 139 47) u) 139 47 (s.1 139 47 + 1)).1 139 47 = s.1 139 47 + 1 := ui_same
  have c8 : ∀ c t, c ≠ 167 → c ≠ 168 → c ≠ 169 → c ≠ 139 → (ui (ui (ui (ui s 167 (s.1 139 47) p) 168 (s.1 139 47) q) 169 (s.1 139 47) u) 139 47 (s.1 139 47 + 1)).1 c t = s.1 c t := fun c t e1 e2 e3 e4 => by rw [ui_cell e4, ui_cell e3, ui_cell e2, ui_cell e1]
  have c2 : ∀ t, (ui (ui (ui (ui s 167 (s.1 139 47) p) 168 (s.1 139 47) q) 169 (s.1 139 47) u) 139 47 (s.1 139 47 + 1)).1 168 t = if t = s.1 139 47 then q else s.1 168 t := fun t => by
    rw [ui_cell (by decide), ui_cell (by decide)]
    by_cases e : t = s.1 139 47
    · rw [if_pos e, e, ui_same]
    · rw [if_neg e, ui_ne e, ui_cell (by decide)]
  have c3 : ∀ t, (ui (ui (ui (ui s 167 (s.1 139 47) p) 168 (s.1 139 47) q) 169 (s.1 139 47) u) 139 47 (s.1 139 47 + 1)).1 169 t = if t = s.1 139 47 then u else s.1 169 t := fun t => by
    rw [ui_cell (by decide)]
    by_cases e : t = s.1 139 47
    · rw [if_pos e, e, ui_same]
    · rw [if_neg e, ui_ne e, ui_cell (by decide), ui_cell (by decide)]
  rw [f46, f47, bins_eq (fun t => c8 161 t (by decide) (by decide) (by decide) (by decide))]
  refine ⟨⟨a1, fun t t0 t1 => ?_⟩, a3, by omega, fun k k0 k1 => ?_, a6⟩
  · rw [c8 161 t (by decide) (by decide) (by decide) (by decide), c8 162 t (by decide) (by decide) (by decide) (by decide), c8 163 t (by decide) (by decide) (by decide) (by decide)]
    exact a2 t t0 t1
  · rw [c2, c3]
    by_cases e : k = s.1 139 47
    · rw [if_pos e, if_pos e]; omega
    · rw [if_neg e, if_neg e]; exact a5 k k0 (by omega)
/-! the kind that an as tells -/
def NT (s : ST) : Prop := (0 ≤ s.1 139 50 ∧ s.1 139 50 < s.1 139 46) ∧ (0 ≤ s.1 139 51 ∧ s.1 139 51 < s.1 139 46)
theorem k_told {b g a l x y z N0 : Int} {Q : ST → Int → Prop} (hb : 0 ≤ b ∧ b < 6) (hgg : 0 ≤ g ∧ g < 240) (hx : x + 20 ≤ 12000) (ha : 0 ≤ a ∧ 1 ≤ l ∧ a + l ≤ 20) : ∀ (m' m : Nat) (s : ST) (n B : Int), l - m = (m' : Int) → s.1 154 g = a → (∀ k, 0 ≤ k → k < 20 → 0 ≤ s.1 156 (20 * b + k) ∧ s.1 156 (20 * b + k) ≤ 5 ∨ ¬ k < a + l) → KW (bkC s b) a l → n = hg (bkC s b) (a + l) m → 0 ≤ n → 2 * B + n ≤ m → 0 ≤ B → GB s (x + m) y (z + B) → NT s → N0 ≤ s.1 139 46 → PN s (s.1 139 46) n →
    (∀ s' v, md [(139, 46)] [161, 162, 163, 166] s s' → N0 ≤ s'.1 139 46 → NT s' → GB s' (x + 20) y (z + 9) → (0 ≤ v ∧ v < s'.1 139 46) → Q s' v) → K_X11_toldKind_27 s b g n (a + l - 1 - m) Q := by
  intro m'
  induction m' with
  | zero =>
    intro m s n B hm h54 hk kw hn n0 hB B0 gb nt hN pn hQ
    obtain rfl : l = m := by omega
    have h1 := kw.2
    rw [Int.toNat_natCast, ← hn] at h1
    refine s_X11_toldKind_27 ?_
    (repeat' (with_reducible first | refine ⟨?_, ?_⟩ | intro _))
    all_goals first | omega | skip
    exact hQ _ _ md.rf hN nt (gb.le (by omega) (by omega) (by omega)) (pn 0 (by omega) (by omega))
  | succ m' ih =>
    intro m s n B hm h54 hk kw hn n0 hB B0 gb nt hN pn hQ
    have hw := kw.1 m (by omega)
    have e56 : bkC s b (a + l - 1 - m) = s.1 156 (20 * b + (a + l - 1 - m)) := rfl
    rw [← hn, e56] at hw
    have hc := (hk (a + l - 1 - m) (by omega) (by omega)).resolve_right (by omega)
    have g1 := gb.1.1
    have go : ∀ s9 n9 B9, md [(139, 46)] [161, 162, 163, 166] s s9 → n9 = n + (if s.1 156 (20 * b + (a + l - 1 - m)) < 3 then 1 else if s.1 156 (20 * b + (a + l - 1 - m)) = 3 then 0 else -1) → 0 ≤ n9 → 2 * B9 + n9 ≤ ((m + 1 : Nat) : Int) → 0 ≤ B9 → GB s9 (x + ((m + 1 : Nat) : Int)) y (z + B9) → s.1 139 46 ≤ s9.1 139 46 → PN s9 (s9.1 139 46) n9 → K_X11_toldKind_27 s9 b g n9 (a + l - 1 - m - 1) Q := by
      intro s9 n9 B9 m9 e9 h0 h1 h2 h3 h4 h5
      have eC : bkC s9 b = bkC s b := funext fun k => m9.c 156 (by decide) (by decide) _
      have f50 := m9.f 139 50 (by decide) (by decide)
      have f51 := m9.f 139 51 (by decide) (by decide)
      rw [show a + l - 1 - (m : Int) - 1 = a + l - 1 - ((m + 1 : Nat) : Int) by omega]
      refine ih (m + 1) s9 n9 B9 (by omega) (by rw [m9.c 154 (by decide) (by decide)]; exact h54) (fun k k0 k1 => by rw [m9.c 156 (by decide) (by decide)]; exact hk k k0 k1) (by rw [eC]; exact kw) ?_ h0 h1 h2 h3 ?_ (by omega) h5 (fun s' v m' n' nt' gb' v' => hQ s' v (m9.tr m') n' nt' gb' v')
      · rw [eC, e9, hn]
        show _ = hg (bkC s b) (a + l) m + (if bkC s b (a + l - 1 - m) < 3 then 1 else if bkC s b (a + l - 1 - m) = 3 then 0 else -1)
        rw [e56]
      · unfold NT at nt ⊢
        rw [f50, f51]; omega
    have k93 : ∀ s9 v, md [(139, 46)] [161, 162, 163, 166] s s9 → s.1 156 (20 * b + (a + l - 1 - m)) < 3 → GB s9 (x + ((m + 1 : Nat) : Int)) y (z + B) → s.1 139 46 ≤ s9.1 139 46 → (0 ≤ v ∧ v < s9.1 139 46) → (∀ i, 0 ≤ i → i < n → s9.1 166 i = s.1 166 i) → K_X11_toldKind_93 s9 b g n (a + l - 1 - m) n v Q := by
      intro s9 v m9 h1 h2 h3 h4 h5
      refine s_X11_toldKind_93 ?_
      (repeat' (with_reducible first | refine ⟨?_, ?_⟩ | intro _))
      all_goals first | omega | skip
      refine go _ (n + 1) B (m9.tr (by repeat' (first | exact md.rf | assumption | refine md.ui ?_ ?_ | refine md.uj ?_ ?_ | exact Or.inr (by decide) | exact Or.inl (by decide)))) (by rw [if_pos h1]) (by omega) (by omega) B0 (h2.keep (fs := []) (cs := [166]) (by repeat' (first | exact md.rf | assumption | refine md.ui ?_ ?_ | refine md.uj ?_ ?_ | exact Or.inr (by decide) | exact Or.inl (by decide))) (by decide) (by decide)) (by rw [ui_cell (by decide)]; exact h3) (fun i i0 i1 => ?_)
      rw [ui_cell (a := 139) (by decide)]
      by_cases e : i = n
      · rw [e, ui_same]; exact h4
      · rw [ui_ne e, h5 i i0 (by omega)]
        have := pn i i0 (by omega)
        omega
    refine s_X11_toldKind_27 ?_
    (repeat' (with_reducible first | refine ⟨?_, ?_⟩ | intro _))
    all_goals first | omega | skip
    · rename_i c3 c4
      have p1 := pn (n - 1) (by omega) (by omega)
      have p2 := pn (n - 1 - 1) (by omega) (by omega)
      refine c_X11_term gb (by omega) (by omega) (by omega) (by omega) fun s9 m9 n9 g9 => ?_
      (repeat' (with_reducible first | refine ⟨?_, ?_⟩ | intro _))
      all_goals first | omega | skip
      refine go _ (n - 1) (B + 1) (md.tr (m9.mono (by decide) (by decide)) (by repeat' (first | exact md.rf | assumption | refine md.ui ?_ ?_ | refine md.uj ?_ ?_ | exact Or.inr (by decide) | exact Or.inl (by decide)))) (by rw [if_neg (by omega), if_neg (by omega)]; omega) (by omega) (by omega) (by omega) ((g9.keep (fs := []) (cs := [166]) (by repeat' (first | exact md.rf | assumption | refine md.ui ?_ ?_ | refine md.uj ?_ ?_ | exact Or.inr (by decide) | exact Or.inl (by decide))) (by decide) (by decide)).le (by omega) (by omega) (by rw [if_pos (by omega)]; omega)) (by rw [ui_cell (by decide)]; omega) (fun i i0 i1 => ?_)
      rw [ui_cell (a := 139) (by decide)]
      by_cases e : i = n - 1 - 1
      · rw [e, ui_same]; omega
      · rw [ui_ne e, m9.c 166 (by decide) (by decide)]
        have := pn i i0 (by omega)
        omega
    · rename_i c3 c4
      have p1 := pn (n - 1) (by omega) (by omega)
      refine c_X11_term gb (by omega) (by omega) (by omega) (by omega) fun s9 m9 n9 g9 => ?_
      (repeat' (with_reducible first | refine ⟨?_, ?_⟩ | intro _))
      all_goals first | omega | skip
      refine go _ n B (md.tr (m9.mono (by decide) (by decide)) (by repeat' (first | exact md.rf | assumption | refine md.ui ?_ ?_ | refine md.uj ?_ ?_ | exact Or.inr (by decide) | exact Or.inl (by decide)))) (by rw [if_neg (by omega), if_pos (by omega)]; omega) (by omega) (by omega) (by omega) ((g9.keep (fs := []) (cs := [166]) (by repeat' (first | exact md.rf | assumption | refine md.ui ?_ ?_ | refine md.uj ?_ ?_ | exact Or.inr (by decide) | exact Or.inl (by decide))) (by decide) (by decide)).le (by omega) (by omega) (by rw [if_neg (by omega)]; omega)) (by rw [ui_cell (by decide)]; omega) (fun i i0 i1 => ?_)
      rw [ui_cell (a := 139) (by decide)]
      by_cases e : i = n - 1
      · rw [e, ui_same]; omega
      · rw [ui_ne e, m9.c 166 (by decide) (by decide)]
        have := pn i i0 (by omega)
        omega
    · refine c_X11_openTerm gb (by omega) fun s9 m9 n9 g9 => ?_
      exact k93 s9 _ (m9.mono (by decide) (by decide)) (by omega) (g9.le (by omega) (by omega) (by omega)) (by omega) (by omega) (fun i i0 i1 => m9.c 166 (by decide) (by decide) i)
    · exact k93 s _ md.rf (by omega) (gb.le (by omega) (by omega) (by omega)) (by omega) nt.2 (fun i _ _ => rfl)
    · exact k93 s _ md.rf (by omega) (gb.le (by omega) (by omega) (by omega)) (by omega) nt.1 (fun i _ _ => rfl)
theorem c_X11_toldKind {s : ST} {b p x y z : Int} {Q : ST → Int → Prop} (w : WF s b) (p0 : 0 ≤ p) (p1 : p < s.1 142 b) (e : s.1 146 (40 * b + p) = 16) (gb : GB s x y z) (nt : NT s) (hx : x + 20 ≤ 12000)
    (hQ : ∀ s' v, md [(139, 46)] [161, 162, 163, 166] s s' → s.1 139 46 ≤ s'.1 139 46 → NT s' → GB s' (x + 20) y (z + 9) → (0 ≤ v ∧ v < s'.1 139 46) → Q s' v) : C_X11_toldKind s b p Q := by
  obtain ⟨⟨t1, t2, t3⟩, t4⟩ := w.told p0 p1 e
  have hb := w.bb
  have hn := w.nn
  have hk := w.nK
  refine s_X11_toldKind ?_
  (repeat' (with_reducible first | refine ⟨?_, ?_⟩ | intro _))
  all_goals first | omega | skip
  have := k_told (b := b) (g := 40 * b + p) (a := s.1 154 (40 * b + p)) (l := s.1 155 (40 * b + p)) (x := x) (y := y) (z := z) (N0 := s.1 139 46) (Q := Q) hb (by omega) hx (by omega) (s.1 155 (40 * b + p)).toNat 0 s 0 0 (by omega) rfl (fun k k0 k1 => ?_) t4 rfl (by omega) (by omega) (by omega) (gb.le (by omega) (by omega) (by omega)) nt (by omega) (fun i _ _ => by omega) hQ
  · rw [show s.1 154 (40 * b + p) + s.1 155 (40 * b + p) - 1 - ((0 : Nat) : Int) = s.1 154 (40 * b + p) + s.1 155 (40 * b + p) - 1 by omega] at this
    exact this
  · by_cases c : k < s.1 154 (40 * b + p) + s.1 155 (40 * b + p)
    · exact Or.inl (w.kC k0 (by omega))
    · exact Or.inr c
/-- a let: its first e stands behind it, its last e behind that -/
theorem WF.let1 {s : ST} {b p : Int} (h : WF s b) (p0 : 0 ≤ p) (p1 : p < s.1 142 b) (e : s.1 146 (40 * b + p) = 4) : s.1 152 (3 * (40 * b + p) + 0) = p + 1 ∧ p + 1 < s.1 142 b ∧ s.1 152 (3 * (40 * b + p) + 1) = s.1 150 (40 * b + (p + 1)) + 1 ∧ s.1 152 (3 * (40 * b + p) + 1) ≤ s.1 150 (40 * b + p) ∧ s.1 150 (40 * b + (p + 1)) < s.1 150 (40 * b + p) := by
  have h1 : s.1 152 (3 * (40 * b + p) + 0) = p + 1 ∧ p + 1 < s.1 142 b := (h.1 p p0 p1).2.2.2.1 (show 1 ≤ ar (s.1 146 (40 * b + p)) by rw [e]; decide)
  have h2 : s.1 152 (3 * (40 * b + p) + 1) = s.1 150 (40 * b + s.1 152 (3 * (40 * b + p) + 0)) + 1 := ((h.1 p p0 p1).2.2.2.2.2.1 (show 2 ≤ ar (s.1 146 (40 * b + p)) by rw [e]; decide)).1
  have h3 := h.kid p0 p1 (show (0 : Int) ≤ 1 by omega) (show 1 < ar (s.1 146 (40 * b + p)) by rw [e]; decide)
  rw [h1.1] at h2
  exact ⟨h1.1, h1.2, h2, by omega, by omega⟩
theorem WF.Proot {s : ST} {b p : Int} (w : WF s b) (p0 : 0 ≤ p) (p1 : p < s.1 142 b) (e : s.1 146 (40 * b + p) = 2) : P_X11_rootOf s b p := by
  have hb := w.bb
  have hn := w.nn
  have hnm := w.name p0 p1 e
  have ho := w.dO p0 p1
  by_cases c : s.1 153 (40 * b + p) < 100
  · obtain ⟨⟨a1, a2, a3⟩, a4⟩ := hnm.1 c
    (repeat' (with_reducible first | refine ⟨?_, ?_⟩ | intro _))
    all_goals omega
  · have := hnm.2 (by omega)
    (repeat' (with_reducible first | refine ⟨?_, ?_⟩ | intro _))
    all_goals omega
