/-! THE REFERENCE: image, back -/
section MET3
variable {s : ST}
theorem i_X11_image {p : Int} {Q : ST → Int → Prop} (h : IM s) (hQ : ∀ s' v, KP s s' → Q s' v) : C_X11_image s p Q := by
  obtain ⟨bk, ld, tr, rg, hi, ⟨t1, t2⟩, bx⟩ := id h
  have b01 := bk.1
  refine c_X11_image b01.1 (by omega) (fun s' p0 p1 mm eb eo e2 e2o e3 e3o => hQ s' _ ?_) (fun _ => hQ s _ ⟨h, rfl, rfl, rfl, rfl, rfl⟩)
  have e28 := mm.f 139 28 (by decide) (by decide)
  have wb := bank_wx (eo (s.1 139 28) (by omega) (by omega) (by omega))
  refine ⟨⟨⟨by omega, ?_⟩, ld.wq b01 bk.2.1 wb.1 mm (by decide) (by decide), ?_, ?_, fun h63 => ?_, ⟨?_, ?_⟩, fun k k0 k1 hk => ?_⟩, mm.f 139 2 (by decide) (by decide), mm.f 139 93 (by decide) (by decide), funext (mm.c 140 (by decide) (by decide)), mm.f 139 4 (by decide) (by decide), mm.f 139 5 (by decide) (by decide)⟩
  · rw [e28]; exact bk.2.copy wb.1 (by omega)
  · intro p p0 p1; rw [mm.c 176 (by decide) (by decide)]; exact tr p p0 p1
  · unfold RG; rw [mm.f 139 92 (by decide) (by decide)]; exact rg
  · rw [mm.f 139 63 (by decide) (by decide)] at h63
    exact (hi h63).keep bk wb mm (by decide) (by decide)
  · rw [mm.f 139 2 (by decide) (by decide)]; exact t1
  · rw [mm.f 139 93 (by decide) (by decide)]; exact t2
  · by_cases c : k = p
    · rw [c]
      refine ⟨bk.2.copy (bank_wq eb) (by omega), fun i i0 i1 => ?_⟩
      rw [e2 i i0 i1]; exact tr i i0 i1
    · rw [e3o k c] at hk
      obtain ⟨x1, x2⟩ := bx k k0 k1 hk
      refine ⟨x1.copy (bank_wq (eo (3 + k) (by omega) (by omega) (by omega))) (by omega), fun i i0 i1 => ?_⟩
      rw [e2o _ (by omega)]; exact x2 i i0 i1
theorem i_X11_back {p : Int} {Q : ST → Int → Prop} (h : IM s) (hQ : ∀ s' v, KP s s' → Q s' v) : C_X11_back s p Q := by
  obtain ⟨bk, ld, tr, rg, hi, ⟨t1, t2⟩, bx⟩ := id h
  have b01 := bk.1
  refine s_X11_back ?_
  (repeat' (with_reducible first | refine ⟨?_, ?_⟩ | intro _))
  all_goals first | omega | exact hQ s _ ⟨h, rfl, rfl, rfl, rfl, rfl⟩ | skip
  have hp : 0 ≤ p ∧ p < 3 := by omega
  obtain ⟨lv3, tr3⟩ := bx p hp.1 hp.2 (by assumption)
  refine c_X11_copyBank (by omega) (by omega) (by omega) fun s4 m4 eb eo => c_X11_begin fun s5 m5 _ e92 e49 e62 e63 => ?_
  have k37 : ∀ (k : Nat) (s9 : ST) (a : Int), 40 - a = (k : Int) → 0 ≤ a → md [] [176] s5 s9 → (∀ i, 0 ≤ i → i < a → s9.1 176 i = s.1 202 (40 * p + i)) → K_X11_back_37 s9 p a Q := by
    intro k
    induction k with
    | zero =>
      intro s9 a hk a0 m9 h9
      refine s_X11_back_37 ?_
      have f28 : s9.1 139 28 = s.1 139 28 := by rw [m9.f 139 28 (by decide) (by decide), m5.f 139 28 (by decide) (by decide), m4.f 139 28 (by decide) (by decide)]
      rw [f28]
      (repeat' (with_reducible first | refine ⟨?_, ?_⟩ | intro _))
      all_goals first | omega | skip
      refine hQ s9 _ ?_
      have m59 : md [(139, 92), (139, 49), (139, 62), (139, 63)] [176] s4 s9 := m5.tr (m9.mono (by decide) (by decide))
      have w49 : ∀ x, WX s4 x s9 x := fun x => WX.md m59 (by decide) (by decide)
      have g2 : s9.1 139 2 = s.1 139 2 := by rw [m59.f 139 2 (by decide) (by decide), m4.f 139 2 (by decide) (by decide)]
      have g93 : s9.1 139 93 = s.1 139 93 := by rw [m59.f 139 93 (by decide) (by decide), m4.f 139 93 (by decide) (by decide)]
      have g140 : s9.1 140 = s.1 140 := funext fun x => by rw [m59.c 140 (by decide) (by decide), m4.c 140 (by decide) (by decide)]
      have g4 : s9.1 139 4 = s.1 139 4 := by rw [m59.f 139 4 (by decide) (by decide), m4.f 139 4 (by decide) (by decide)]
      have g5 : s9.1 139 5 = s.1 139 5 := by rw [m59.f 139 5 (by decide) (by decide), m4.f 139 5 (by decide) (by decide)]
      refine ⟨⟨⟨by omega, ?_⟩, fun hl => ?_, fun i i0 i1 => ?_, ?_, fun h63 => absurd ?_ h63, ⟨by omega, by omega⟩, bx.wx (fun x x0 x1 => (bank_wx (eo x (by omega) (by omega) (by omega))).tr (w49 x)) (fun x => ?_) (fun x => ?_)⟩, g2, g93, g140, g4, g5⟩
      · rw [f28]; exact (lv3.copy (bank_wq eb) (by omega)).copy (w49 _).1 (by omega)
      · rw [m9.f 139 49 (by decide) (by decide), e49] at hl; omega
      · rw [h9 i i0 (by omega)]; exact tr3 i i0 i1
      · unfold RG; rw [m9.f 139 92 (by decide) (by decide)]; omega
      · rw [m9.f 139 63 (by decide) (by decide)]; exact e63
      · rw [m59.c 202 (by decide) (by decide), m4.c 202 (by decide) (by decide)]
      · rw [m59.c 203 (by decide) (by decide), m4.c 203 (by decide) (by decide)]
    | succ k ih =>
      intro s9 a hk a0 m9 h9
      refine s_X11_back_37 ?_
      (repeat' (with_reducible first | refine ⟨?_, ?_⟩ | intro _))
      all_goals first | omega | skip
      have e2 : ∀ x, s9.1 202 x = s.1 202 x := fun x => by rw [m9.c 202 (by decide) (by decide), m5.c 202 (by decide) (by decide), m4.c 202 (by decide) (by decide)]
      refine ih _ (a + 1) (by omega) (by omega) (by repeat' (first | exact md.rf | assumption | refine md.ui ?_ ?_ | refine md.uj ?_ ?_ | exact Or.inr (by decide) | exact Or.inl (by decide))) fun i i0 i1 => ?_
      by_cases c : i = a
      · rw [c, ui_same, e2]
      · rw [ui_ne c]; exact h9 i i0 (by omega)
  exact k37 40 s5 0 (by omega) (by omega) md.rf (fun i i0 i1 => by omega)
end MET3
