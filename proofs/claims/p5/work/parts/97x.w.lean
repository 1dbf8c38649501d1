/-! THE REFERENCE: the other methods return -/
section MET2
variable {s : ST}
theorem i_X11_later {p : Int} {Q : ST → Int → Prop} (h : IM s) (hQ : ∀ s' v, IM s' → s'.1 139 2 = s.1 139 2 → (s'.1 140 = s.1 140 ∧ s'.1 139 4 = s.1 139 4 ∧ s'.1 139 5 = s.1 139 5) → (s'.1 139 93 = s.1 139 93 ∧ v = -1 ∧ (p < 0 ∨ 1000 < p ∨ 100000 < s.1 139 93 + p) ∨ s'.1 139 93 = s.1 139 93 + p ∧ v = s.1 139 93 + p ∧ (0 ≤ p ∧ p ≤ 1000 ∧ s.1 139 93 + p ≤ 100000)) → Q s' v) : C_X11_later s p Q := by
  obtain ⟨bk, ld, tr, rg, hi, ⟨t1, t2⟩, bx⟩ := id h
  refine s_X11_later ?_
  (repeat' (with_reducible first | refine ⟨?_, ?_⟩ | intro _))
  all_goals first | omega | exact hQ _ _ h rfl ⟨rfl, rfl, rfl⟩ (Or.inl ⟨rfl, rfl, by omega⟩) | skip
  have mm : md [(139, 93)] [] s (ui s 139 93 (s.1 139 93 + p)) := (by repeat' (first | exact md.rf | assumption | refine md.ui ?_ ?_ | refine md.uj ?_ ?_ | exact Or.inr (by decide) | exact Or.inl (by decide)))
  have e93 : (ui s 139 93 (s.1 139 93 + p)).1 139 93 = s.1 139 93 + p := ui_same
  generalize ui s 139 93 (s.1 139 93 + p) = s1 at *
  have e28 := mm.f 139 28 (by decide) (by decide)
  have b01 := bk.1
  refine hQ _ _ ⟨⟨by omega, ?_⟩, ld.kp mm (by decide) (by decide), ?_, ?_, fun h63 => ?_, ⟨?_, by omega⟩, bx.wx (fun x _ _ => WX.md mm (by decide) (by decide)) (fun x => mm.c 202 (by decide) (by decide) x) (fun x => mm.c 203 (by decide) (by decide) x)⟩ (mm.f 139 2 (by decide) (by decide)) ⟨funext (mm.c 140 (by decide) (by decide)), mm.f 139 4 (by decide) (by decide), mm.f 139 5 (by decide) (by decide)⟩ (Or.inr ⟨e93, rfl, by omega⟩)
  · rw [e28]; exact bk.2.copy (WX.md mm (by decide) (by decide)).1 (by omega)
  · intro p p0 p1; rw [mm.c 176 (by decide) (by decide)]; exact tr p p0 p1
  · unfold RG; rw [mm.f 139 92 (by decide) (by decide)]; exact rg
  · rw [mm.f 139 63 (by decide) (by decide)] at h63
    exact (hi h63).keep bk (WX.md mm (by decide) (by decide)) mm (by decide) (by decide)
  · rw [mm.f 139 2 (by decide) (by decide)]; exact t1
/-- taped may have changed -/
theorem IM.tape {s s' : ST} (h : IM s) (mm : md [(139, 2)] [140] s s') (t : 0 ≤ s'.1 139 2 ∧ s'.1 139 2 ≤ 1600) : IM s' ∧ s'.1 139 93 = s.1 139 93 := by
  obtain ⟨bk, ld, tr, rg, hi, ⟨t1, t2⟩, bx⟩ := id h
  have e28 := mm.f 139 28 (by decide) (by decide)
  have b01 := bk.1
  refine ⟨⟨⟨by omega, ?_⟩, ld.kp mm (by decide) (by decide), ?_, ?_, fun h63 => ?_, ⟨t, ?_⟩, bx.wx (fun x _ _ => WX.md mm (by decide) (by decide)) (fun x => mm.c 202 (by decide) (by decide) x) (fun x => mm.c 203 (by decide) (by decide) x)⟩, mm.f 139 93 (by decide) (by decide)⟩
  · rw [e28]; exact bk.2.copy (WX.md mm (by decide) (by decide)).1 (by omega)
  · intro p p0 p1; rw [mm.c 176 (by decide) (by decide)]; exact tr p p0 p1
  · unfold RG; rw [mm.f 139 92 (by decide) (by decide)]; exact rg
  · rw [mm.f 139 63 (by decide) (by decide)] at h63
    exact (hi h63).keep bk (WX.md mm (by decide) (by decide)) mm (by decide) (by decide)
  · rw [mm.f 139 93 (by decide) (by decide)]; exact t2
theorem i_X11_feed {p q u w x : Int} {Q : ST → Int → Prop} (h : IM s) (hQ1 : s.1 139 2 + 20 ≤ 1600 → ∀ s', IM s' → s'.1 139 93 = s.1 139 93 → s'.1 139 2 = s.1 139 2 + 20 → (∀ i, 0 ≤ i → i < 20 → s'.1 140 (s.1 139 2 + i) = fb p q u w x i) → (∀ i, i < s.1 139 2 ∨ s.1 139 2 + 20 ≤ i → s'.1 140 i = s.1 140 i) → (s'.1 139 4 = s.1 139 4 ∧ s'.1 139 5 = s.1 139 5) → Q s' (s.1 139 2 + 20)) (hQ2 : 1600 < s.1 139 2 + 20 → Q s (-1)) : C_X11_feed s p q u w x Q := by
  have t1 := h.2.2.2.2.2.1.1
  refine c_X11_feed t1.1 t1.2 (fun hle s' m e a b => ?_) hQ2
  have := h.tape m (by omega)
  exact hQ1 hle s' this.1 this.2 e a b ⟨m.f 139 4 (by decide) (by decide), m.f 139 5 (by decide) (by decide)⟩
theorem i_X11_end {p : Int} {Q : ST → Int → Prop} (h : IM s) (hQ : ∀ s' v, IM s' → s'.1 139 93 = s.1 139 93 → (s'.1 140 = s.1 140 ∧ s'.1 139 4 = s.1 139 4 ∧ s'.1 139 5 = s.1 139 5) → (s'.1 139 2 = s.1 139 2 ∧ v = -1 ∧ (p < 0 ∨ s.1 139 2 < p) ∨ s'.1 139 2 = p ∧ v = p ∧ 0 ≤ p ∧ p ≤ s.1 139 2) → Q s' v) : C_X11_end s p Q := by
  have t1 := h.2.2.2.2.2.1.1
  refine s_X11_end ?_
  (repeat' (with_reducible first | refine ⟨?_, ?_⟩ | intro _))
  · exact hQ _ _ h rfl ⟨rfl, rfl, rfl⟩ (Or.inl ⟨rfl, rfl, by omega⟩)
  · have mm : md [(139, 2)] [140] s (ui s 139 2 p) := (by repeat' (first | exact md.rf | assumption | refine md.ui ?_ ?_ | refine md.uj ?_ ?_ | exact Or.inr (by decide) | exact Or.inl (by decide)))
    have e2 : (ui s 139 2 p).1 139 2 = p := ui_same
    have := h.tape mm (by omega)
    exact hQ _ _ this.1 this.2 ⟨funext fun x => ui_cell (by decide), ui_ne (by decide), ui_ne (by decide)⟩ (Or.inr ⟨e2, rfl, by omega, by omega⟩)
  · exact hQ _ _ h rfl ⟨rfl, rfl, rfl⟩ (Or.inl ⟨rfl, rfl, by omega⟩)
theorem i_X11_trust {p q : Int} {Q : ST → Int → Prop} (h : IM s) (hQ : ∀ s' v, KP s s' → Q s' v) : C_X11_trust s p q Q := by
  obtain ⟨bk, ld, tr, rg, hi, ⟨t1, t2⟩, bx⟩ := id h
  refine c_X11_trust bk tr fun s' v mm tr' h6 => hQ s' v ?_
  have e28 := mm.f 139 28 (by decide) (by decide)
  have b01 := bk.1
  refine ⟨⟨⟨by omega, ?_⟩, ld.kp mm (by decide) (by decide), tr', ?_, fun h63 => ?_, ⟨?_, ?_⟩, bx.wx (fun x _ _ => WX.md mm (by decide) (by decide)) (fun x => mm.c 202 (by decide) (by decide) x) (fun x => mm.c 203 (by decide) (by decide) x)⟩, mm.f 139 2 (by decide) (by decide), mm.f 139 93 (by decide) (by decide), funext (mm.c 140 (by decide) (by decide)), mm.f 139 4 (by decide) (by decide), mm.f 139 5 (by decide) (by decide)⟩
  · rw [e28]; exact bk.2.copy (WX.md mm (by decide) (by decide)).1 (by omega)
  · unfold RG; rw [mm.f 139 92 (by decide) (by decide)]; exact rg
  · rcases h6 with ⟨_, e⟩ | ⟨_, e⟩
    · rw [e] at h63
      exact (hi h63).keep bk (WX.md mm (by decide) (by decide)) mm (by decide) (by decide)
    · exact absurd e h63
  · rw [mm.f 139 2 (by decide) (by decide)]; exact t1
  · rw [mm.f 139 93 (by decide) (by decide)]; exact t2
theorem KB.im {s s' : ST} (h : IM s) (m : md fhF fhC s s') (k : KB s s') (bk : BK s') (ld : LD s') (tr : TR s') (hi : s'.1 139 63 ≠ 0 → HI s') : KP s s' := by
  obtain ⟨_, _, _, rg, _, ⟨t1, t2⟩, bx⟩ := h
  refine ⟨⟨bk, ld, tr, ?_, hi, ⟨?_, ?_⟩, bx.wx (fun x x0 x1 => k x (Or.inr ⟨x0, x1⟩)) (fun x => m.c 202 (by decide) (by decide) x) (fun x => m.c 203 (by decide) (by decide) x)⟩, m.f 139 2 (by decide) (by decide), m.f 139 93 (by decide) (by decide), funext (m.c 140 (by decide) (by decide)), m.f 139 4 (by decide) (by decide), m.f 139 5 (by decide) (by decide)⟩
  · unfold RG; rw [m.f 139 92 (by decide) (by decide)]; exact rg
  · rw [m.f 139 2 (by decide) (by decide)]; exact t1
  · rw [m.f 139 93 (by decide) (by decide)]; exact t2
theorem i_X11_hints {Q : ST → Int → Prop} (h : IM s) (hQ : ∀ s' v, KP s s' → Q s' v) : C_X11_hints s Q := c_X11_hints h.1 h.2.1 h.2.2.1 h.2.2.2.2.1 fun s' v m k b l t i => hQ s' v (KB.im h m k b l t i)
theorem i_X11_hint {p q : Int} {Q : ST → Int → Prop} (h : IM s) (hQ : ∀ s' v, KP s s' → Q s' v) : C_X11_hint s p q Q := c_X11_hint h.1 h.2.1 h.2.2.1 h.2.2.2.2.1 fun s' v m k b l t i => hQ s' v (KB.im h m k b l t i)
theorem i_X11_apply {p : Int} {Q : ST → Int → Prop} (h : IM s) (hQ : ∀ s' v, KP s s' → Q s' v) : C_X11_apply s p Q := by
  refine c_X11_apply h.1 h.2.1 h.2.2.1 h.2.2.2.2.1 fun s' v m k b l t i r => hQ s' v ?_
  obtain ⟨_, _, _, rg, _, ⟨t1, t2⟩, bx⟩ := h
  refine ⟨⟨b, l, t, ?_, i, ⟨?_, ?_⟩, bx.wx k (fun x => m.c 202 (by decide) (by decide) x) (fun x => m.c 203 (by decide) (by decide) x)⟩, m.f 139 2 (by decide) (by decide), m.f 139 93 (by decide) (by decide), funext (m.c 140 (by decide) (by decide)), m.f 139 4 (by decide) (by decide), m.f 139 5 (by decide) (by decide)⟩
  · unfold RG at *; omega
  · rw [m.f 139 2 (by decide) (by decide)]; exact t1
  · rw [m.f 139 93 (by decide) (by decide)]; exact t2
theorem i_X11_about {p : Int} {Q : ST → Int → Prop} (h : IM s) (hQ : ∀ v, Q s v) : C_X11_about s p Q := by
  have b01 := h.1.1
  refine s_X11_about ?_
  (repeat' (with_reducible first | refine ⟨?_, ?_⟩ | intro _))
  all_goals first | omega | exact hQ _ | skip
  · exact c_X11_asksOf h.1.2.1 (hQ _)
  · exact c_X11_wholeTrust h.1 h.2.2.1 (fun v _ _ => hQ v)
theorem i_X11_program {Q : ST → Int → Prop} (h : IM s) (hQ : ∀ s' v, IM s' → s'.1 139 93 = s.1 139 93 → s'.1 139 2 = 0 → Q s' v) : C_X11_program s Q := by
  obtain ⟨bk, ld, tr, rg, hi, ⟨t1, t2⟩, bx⟩ := id h
  have b01 := bk.1
  refine c_X11_program b01 t1 (fun s' mm wx e2 => ?_) (fun s' v mm b28 lv tr' e92 e49 e62 e63 hx e2 => ?_)
  · have e28 := mm.f 139 28 (by decide) (by decide)
    have wb := wx (s.1 139 28) (by omega) (by omega) (by omega)
    refine hQ s' _ ⟨⟨by omega, ?_⟩, ld.wq b01 bk.2.1 wb.1 mm (by decide) (by decide), ?_, ?_, fun h63 => ?_, ⟨by omega, ?_⟩, bx.wx (fun x x0 x1 => wx x (by omega) (by omega) (by omega)) (fun x => mm.c 202 (by decide) (by decide) x) (fun x => mm.c 203 (by decide) (by decide) x)⟩ (mm.f 139 93 (by decide) (by decide)) e2
    · rw [e28]; exact bk.2.copy wb.1 (by omega)
    · intro p p0 p1; rw [mm.c 176 (by decide) (by decide)]; exact tr p p0 p1
    · unfold RG; rw [mm.f 139 92 (by decide) (by decide)]; exact rg
    · rw [mm.f 139 63 (by decide) (by decide)] at h63
      exact (hi h63).keep bk wb mm (by decide) (by decide)
    · rw [mm.f 139 93 (by decide) (by decide)]; exact t2
  · refine hQ s' v ⟨⟨b28, lv⟩, fun h => by omega, tr', by unfold RG; omega, fun h => absurd e63 h, ⟨by omega, ?_⟩, fun k k0 k1 hk => absurd (hx k k0 k1) hk⟩ (mm.f 139 93 (by decide) (by decide)) e2
    rw [mm.f 139 93 (by decide) (by decide)]; exact t2
end MET2
