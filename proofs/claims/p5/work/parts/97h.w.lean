/-! THE REFERENCE: findHints, apply -/
def fhF : List (Nat × Int) := (139, 71) :: (139, 60) :: (139, 61) :: (139, 62) :: (139, 63) :: adF
def fhC : List Nat := 174 :: 175 :: 177 :: 178 :: 179 :: 180 :: 181 :: 187 :: adC
def FHI (s : ST) : Prop := BK s ∧ LD s ∧ TR s ∧ HI s
theorem TR.keep {fs : List (Nat × Int)} {cs : List Nat} {s s' : ST} (h : TR s) (hm : md fs cs s s') (h1 : (fs.all fun q => decide (q.1 ≠ 176)) = true) (h2 : decide (176 ∉ cs) = true) : TR s' := fun i i0 i1 => by rw [hm.c 176 h1 h2]; exact h i i0 i1
theorem add_step {s : ST} {b p c w its : Int} {Q : ST → Prop} (h : FHI s) (h28 : s.1 139 28 = b) (p0 : 0 ≤ p) (p1 : p < s.1 142 b) (cg : CG (bso s b) p c) (h1 : c = 1 → ((0 ≤ w ∧ w < 40) ∧ VM s b p its) ∧ s.1 187 w = its ∧ (ML s b p)[w.toNat]? = some its)
    (hQ : ∀ s', md adF adC s s' → KB s s' → FHI s' → s'.1 139 28 = b → Q s') : C_X11_adds s p c w Q := by
  subst h28
  obtain ⟨hb, hl, ht, hi⟩ := h
  refine c_X11_adds (its := its) ⟨hb.1, hb.2.1, ⟨p0, p1⟩, cg, fun hc => ?_⟩ (fun hc => (h1 hc).2.1) (fun hc => (h1 hc).2.2) hb hl hi fun s' m' kb' l' b' i' => hQ s' m' kb' ⟨b', l', ht.keep m' (by decide) (by decide), i'⟩ (m'.f 139 28 (by decide) (by decide))
  obtain ⟨⟨w01, vm⟩, _⟩ := h1 hc
  exact ⟨w01, vm⟩
theorem k_fh29 {b : Int} {Q : ST → Prop} {mend : Int64} : ∀ (m : Nat) (s : ST) (p : Int), 40 - p ≤ (m : Int) → 0 ≤ p → FHI s → s.1 139 28 = b → (∀ s', md fhF fhC s s' → KB s s' → FHI s' → Q s') → K_X11_findHints_29 s mend p Q := by
  intro m
  induction m with
  | zero =>
    intro s p hm p0 h h28 hQ
    subst h28
    have b01 := h.1.1
    have nn := h.1.2.1.nn
    refine s_X11_findHints_29 ?_
    (repeat' (with_reducible first | refine ⟨?_, ?_⟩ | intro _))
    all_goals first | omega | exact hQ s md.rf (fun x _ => .rf) h
  | succ m ih =>
    intro s p hm p0 h h28 hQ
    have b01 := h.1.1
    have nn := h.1.2.1.nn
    rw [h28] at b01 nn
    by_cases hp : p < s.1 142 b
    · -- the steps from the last back to the first
      have so := h.1.2.1.so (p := p) p0 (by rw [h28]; exact hp)
      rw [h28] at so
      have cgp : ∀ (s2 : ST), KB s s2 → bso s2 b p = s.1 146 (40 * b + p) := fun s2 kb => ((kb b (by omega)).1.2.2.2 p p0 (by omega)).1.1
      have hp2 : ∀ (s2 : ST), KB s s2 → p < s2.1 142 b := fun s2 kb => by rw [(kb b (by omega)).1.1.1]; exact hp
      have k148 : ∀ s2, md fhF fhC s s2 → KB s s2 → FHI s2 → s2.1 139 28 = b → K_X11_findHints_148 s2 mend p Q := by
        intro s2 m2 kb2 h2 e2
        refine s_X11_findHints_148 fun _ _ => ?_
        refine add_step (its := 0) h2 e2 p0 (hp2 s2 kb2) ⟨by omega, fun x => by omega, fun x => by omega, fun x => by omega, fun x => by omega⟩ (fun x => by omega) fun s3 m3 kb3 h3 e3 => ?_
        (repeat' (with_reducible first | refine ⟨?_, ?_⟩ | intro _))
        all_goals first | omega | skip
        have m23 : md fhF fhC s s3 := m2.tr (m3.mono (by decide) (by decide))
        exact ih s3 (p + 1) (by omega) (by omega) h3 e3 (fun s' m' kb' h' => hQ s' (m23.tr m') ((kb2.tr kb3).tr kb') h')
      have k135 : ∀ s2, md fhF fhC s s2 → KB s s2 → FHI s2 → s2.1 139 28 = b → K_X11_findHints_135 s2 mend p (s.1 146 (40 * b + p)) Q := by
        intro s2 m2 kb2 h2 e2
        refine s_X11_findHints_135 fun _ _ _ => ⟨fun _ => k148 s2 m2 kb2 h2 e2, fun e => ?_⟩
        refine add_step (its := 0) h2 e2 p0 (hp2 s2 kb2) ⟨by omega, fun x => by omega, fun x => by omega, fun x => by omega, fun x => by rw [cgp s2 kb2]; omega⟩ (fun x => by omega) fun s3 m3 kb3 h3 e3 => ?_
        exact k148 s3 (m2.tr (m3.mono (by decide) (by decide))) (kb2.tr kb3) h3 e3
      have k123 : ∀ s2, md fhF fhC s s2 → KB s s2 → FHI s2 → s2.1 139 28 = b → K_X11_findHints_123 s2 mend p (s.1 146 (40 * b + p)) Q := by
        intro s2 m2 kb2 h2 e2
        refine s_X11_findHints_123 fun _ _ _ => ⟨fun _ => k135 s2 m2 kb2 h2 e2, fun e => ?_⟩
        refine add_step (its := 0) h2 e2 p0 (hp2 s2 kb2) ⟨by omega, fun x => by omega, fun x => by omega, fun x => by rw [cgp s2 kb2]; omega, fun x => by omega⟩ (fun x => by omega) fun s3 m3 kb3 h3 e3 => ?_
        exact k135 s3 (m2.tr (m3.mono (by decide) (by decide))) (kb2.tr kb3) h3 e3
      have k100 : s.1 146 (40 * b + p) = 2 → ∀ (r : Nat) (s2 : ST) (i : Int), 40 - i ≤ (r : Int) → 0 ≤ i → md fhF fhC s s2 → KB s s2 → FHI s2 → s2.1 139 28 = b → MLS s2 (ML s2 b p) → (∀ a, a ∈ ML s2 b p → VM s2 b p a) → (ML s2 b p).length < 40 → K_X11_findHints_100 s2 mend p (s.1 146 (40 * b + p)) i Q := by
        intro e2s r
        induction r with
        | zero =>
          intro s2 i hr i0 m2 kb2 h2 e2 ms vm hlen
          have e71 := ms.1
          refine s_X11_findHints_100 ?_
          (repeat' (with_reducible first | refine ⟨?_, ?_⟩ | intro _))
          all_goals first | omega | exact k123 s2 m2 kb2 h2 e2
        | succ r ihr =>
          intro s2 i hr i0 m2 kb2 h2 e2 ms vm hlen
          have e71 := ms.1
          refine s_X11_findHints_100 fun _ _ _ _ => ⟨fun _ => k123 s2 m2 kb2 h2 e2, fun hlt => ?_⟩
          have hil := ms.2 i.toNat (by omega)
          rw [show ((i.toNat : Nat) : Int) = i by omega] at hil
          refine add_step (its := s2.1 187 i) h2 e2 p0 (hp2 s2 kb2) ⟨by omega, fun x => by omega, fun x => by rw [cgp s2 kb2]; exact e2s, fun x => by omega, fun x => by omega⟩ (fun _ => ⟨⟨by omega, vm _ (List.mem_of_getElem? hil)⟩, rfl, hil⟩) fun s3 m3 kb3 h3 e3 => ?_
          have W2 := h2.1.2.1
          rw [e2] at W2
          have kx := kb3 b (by omega)
          have eml : ML s3 b p = ML s2 b p := ML.copy kx W2 p0 (hp2 s2 kb2)
          (repeat' (with_reducible first | refine ⟨?_, ?_⟩ | intro _))
          all_goals first | omega | skip
          refine ihr s3 (i + 1) (by omega) (by omega) (m2.tr (m3.mono (by decide) (by decide))) (kb2.tr kb3) h3 e3 (by rw [eml]; exact ms.keep m3 (by decide) (by decide) (by decide) (by decide)) (fun a ha => ?_) (by rw [eml]; exact hlen)
          rw [eml] at ha
          have nn2 := W2.nn
          have hpl := hp2 s2 kb2
          obtain ⟨⟨_, q4, _, q6⟩, _⟩ := kx
          rcases vm a ha with ⟨⟨x1, x2, x3⟩, x4⟩ | x
          · have qa := q6 a x1 (by omega)
            rw [show VM s3 b p a = (((0 ≤ a ∧ a < p ∧ p ≤ s3.1 150 (40 * b + a)) ∧ (s3.1 146 (40 * b + a) = 3 ∨ s3.1 146 (40 * b + a) = 4 ∧ s3.1 152 (3 * (40 * b + a) + 1) ≤ p)) ∨ (100 ≤ a ∧ a - 100 < s3.1 149 (40 * b + p))) from rfl, qa.1.1, qa.1.2.2.1, qa.2 1 (by omega) (by omega)]
            exact Or.inl ⟨⟨x1, x2, x3⟩, x4⟩
          · have qp := q6 p p0 (by omega)
            exact Or.inr ⟨x.1, by rw [qp.1.2.1]; exact x.2⟩
      have k86 : ∀ s2, md fhF fhC s s2 → KB s s2 → FHI s2 → s2.1 139 28 = b → K_X11_findHints_86 s2 mend p (s.1 146 (40 * b + p)) Q := by
        intro s2 m2 kb2 h2 e2
        have W2 := h2.1.2.1
        rw [e2] at W2
        refine s_X11_findHints_86 fun _ _ _ => ⟨fun _ => k123 s2 m2 kb2 h2 e2, fun e => ?_⟩
        refine c_X11_layMeant b01 W2 e2 p0 (hp2 s2 kb2) fun s3 m3 ms3 vm3 len3 => ?_
        have kx : WX s2 b s3 b := WX.md m3 (by decide) (by decide)
        have eml : ML s3 b p = ML s2 b p := ML.copy kx W2 p0 (hp2 s2 kb2)
        have kb3 : KB s2 s3 := fun x _ => WX.md m3 (by decide) (by decide)
        obtain ⟨g1, g2, g3, g4⟩ := h2
        refine k100 e 40 s3 0 (by omega) (by omega) (m2.tr (m3.mono (by decide) (by decide))) (kb2.tr kb3) ⟨g1.keep m3 (by decide) (by decide), g2.kp m3 (by decide) (by decide), g3.keep m3 (by decide) (by decide), g4.keep g1 (kb3 _ (Or.inl g1.1)) m3 (by decide) (by decide)⟩ (by rw [m3.f 139 28 (by decide) (by decide)]; exact e2) (by rw [eml]; exact ms3) (fun a ha => ?_) (by rw [eml]; exact len3)
        rw [eml] at ha
        have := vm3 a ha
        unfold VM at this ⊢
        rw [m3.c 150 (by decide) (by decide), m3.c 146 (by decide) (by decide), m3.c 152 (by decide) (by decide), m3.c 149 (by decide) (by decide)]
        exact this
      refine s_X11_findHints_29 ?_
      rw [h28]
      refine fun _ _ => ⟨⟨by omega, by omega⟩, fun hx => absurd hp (by omega), fun _ => ⟨fun _ => ⟨⟨by omega, by omega⟩, ⟨by omega, by omega⟩, ⟨by omega, by omega⟩, fun _ => k86 s md.rf (fun x _ => .rf) h h28, fun ht => ?_⟩, fun _ => ⟨⟨by omega, by omega⟩, ih s (p + 1) (by omega) (by omega) h h28 hQ⟩⟩⟩
      refine add_step (its := 0) h h28 p0 hp ⟨by omega, fun _ => ?_, fun x => by omega, fun x => by omega, fun x => by omega⟩ (fun x => by omega) fun s3 m3 kb3 h3 e3 => k86 s3 (m3.mono (by decide) (by decide)) kb3 h3 e3
      show s.1 146 (40 * b + p) = 6 ∨ s.1 146 (40 * b + p) = 7 ∨ s.1 146 (40 * b + p) = 11 ∨ s.1 146 (40 * b + p) = 14 ∨ s.1 146 (40 * b + p) = 15 ∨ s.1 146 (40 * b + p) = 5
      omega
    · refine s_X11_findHints_29 ?_
      rw [h28]
      (repeat' (with_reducible first | refine ⟨?_, ?_⟩ | intro _))
      all_goals first | omega | exact hQ s md.rf (fun x _ => .rf) h
theorem c_X11_findHints {s : ST} {Q : ST → Prop} (hb : BK s) (hl : LD s) (ht : TR s) (hi : s.1 139 63 ≠ 0 → HI s) (hQ : ∀ s', md fhF fhC s s' → KB s s' → FHI s' → Q s') : C_X11_findHints s Q := by
  refine s_X11_findHints fun _ => ⟨fun _ => ?_, fun h => hQ s md.rf (fun x _ => .rf) ⟨hb, hl, ht, hi h⟩⟩
  have m0 : md [(139, 63), (139, 70)] [] s (ui (ui s 139 63 1) 139 70 0) := (by repeat' (first | exact md.rf | assumption | refine md.ui ?_ ?_ | refine md.uj ?_ ?_ | exact Or.inr (by decide) | exact Or.inl (by decide)))
  have g70 : (ui (ui s 139 63 1) 139 70 0).1 139 70 = 0 := ui_same
  generalize (ui (ui s 139 63 1) 139 70 0) = s0 at *
  refine c_X11_findCheapest (hb.keep m0 (by decide) (by decide)) (hl.kp m0 (by decide) (by decide)) (ht.keep m0 (by decide) (by decide)) fun s1 m1 l1 => ?_
  have m01 : md fhF fhC s s1 := (m0.mono (by decide) (by decide)).tr (m1.mono (by decide) (by decide))
  have kb1 : KB s s1 := fun x _ => (WX.md m0 (by decide) (by decide)).tr (WX.md m1 (by decide) (by decide))
  have e70 := m1.f 139 70 (by decide) (by decide)
  exact k_fh29 (b := s1.1 139 28) 40 s1 0 (by omega) (by omega) ⟨hb.wx kb1 m01 (by decide) (by decide), l1, ht.keep m01 (by decide) (by decide), ⟨by omega, fun i i0 i1 => by omega⟩⟩ rfl (fun s' m' kb' h' => hQ s' (m01.tr m') (kb1.tr kb') h')
theorem c_X11_hints {s : ST} {Q : ST → Int → Prop} (hb : BK s) (hl : LD s) (ht : TR s) (hi : s.1 139 63 ≠ 0 → HI s) (hQ : ∀ s' v, md fhF fhC s s' → KB s s' → BK s' → LD s' → TR s' → (s'.1 139 63 ≠ 0 → HI s') → Q s' v) : C_X11_hints s Q := by
  have := hb.1
  exact s_X11_hints fun _ => ⟨⟨by omega, by omega⟩, fun _ => c_X11_findHints hb hl ht hi fun s' m' kb' h' => hQ _ _ m' kb' h'.1 h'.2.1 h'.2.2.1 (fun _ => h'.2.2.2), fun _ => hQ s _ md.rf (fun x _ => .rf) hb hl ht hi⟩
theorem c_X11_hint {s : ST} {p q : Int} {Q : ST → Int → Prop} (hb : BK s) (hl : LD s) (ht : TR s) (hi : s.1 139 63 ≠ 0 → HI s) (hQ : ∀ s' v, md fhF fhC s s' → KB s s' → BK s' → LD s' → TR s' → (s'.1 139 63 ≠ 0 → HI s') → Q s' v) : C_X11_hint s p q Q := by
  have := hb.1
  refine s_X11_hint fun _ _ _ => ⟨⟨by omega, by omega⟩, fun _ => hQ s _ md.rf (fun x _ => .rf) hb hl ht hi, fun _ => ⟨fun _ => c_X11_findHints hb hl ht hi fun s' m' kb' h' => ?_, fun _ => hQ s _ md.rf (fun x _ => .rf) hb hl ht hi⟩⟩
  have h70 := h'.2.2.2.1
  (repeat' (with_reducible first | refine ⟨?_, ?_⟩ | intro _))
  all_goals first | omega | exact hQ _ _ m' kb' h'.1 h'.2.1 h'.2.2.1 (fun _ => h'.2.2.2)
theorem c_X11_begin {s : ST} {Q : ST → Prop} (hQ : ∀ s', md [(139, 92), (139, 49), (139, 62), (139, 63)] [176] s s' → TR s' → s'.1 139 92 = 0 → s'.1 139 49 = -1 → s'.1 139 62 = 0 → s'.1 139 63 = 0 → Q s') : C_X11_begin s Q := by
  have key : ∀ (m : Nat) (s1 : ST) (j : Int), 40 - j = (m : Int) → 0 ≤ j → md [] [176] s s1 → (∀ i, 0 ≤ i → i < j → s1.1 176 i = 1) → K_X11_begin_2 s1 j Q := by
    intro m
    induction m with
    | zero =>
      intro s1 j hm j0 m1 h1
      refine s_X11_begin_2 ?_
      (repeat' (with_reducible first | refine ⟨?_, ?_⟩ | intro _))
      all_goals first | omega | skip
      refine hQ _ (md.tr (m1.mono (by decide) (by decide)) (by repeat' (first | exact md.rf | assumption | refine md.ui ?_ ?_ | refine md.uj ?_ ?_ | exact Or.inr (by decide) | exact Or.inl (by decide)))) (fun i i0 i1 => ?_) ?_ ?_ ?_ ui_same
      · rw [ui_cell (by decide), ui_cell (by decide), ui_cell (by decide), ui_cell (by decide), h1 i i0 (by omega)]; omega
      · rw [ui_ne (by decide), ui_ne (by decide), ui_ne (by decide), ui_same]
      · rw [ui_ne (by decide), ui_ne (by decide), ui_same]
      · rw [ui_ne (by decide), ui_same]
    | succ m ih =>
      intro s1 j hm j0 m1 h1
      refine s_X11_begin_2 ?_
      (repeat' (with_reducible first | refine ⟨?_, ?_⟩ | intro _))
      all_goals first | omega | skip
      refine ih _ (j + 1) (by omega) (by omega) (m1.tr (by repeat' (first | exact md.rf | assumption | refine md.ui ?_ ?_ | refine md.uj ?_ ?_ | exact Or.inr (by decide) | exact Or.inl (by decide)))) (fun i i0 i1 => ?_)
      by_cases e : i = j
      · rw [e, ui_same]
      · rw [ui_ne e]; exact h1 i i0 (by omega)
  exact s_X11_begin fun _ => key 40 s 0 (by omega) (by omega) md.rf (fun i _ _ => by omega)
def apF : List (Nat × Int) := (139, 28) :: (139, 92) :: fhF
def apC : List Nat := 176 :: fhC
theorem LV.again {s0 sA sB : ST} {b p c w its : Int} (cx : CX s0 b p c w its) (nA : NEW s0 b p c its sA) (nB : NEW s0 b p c its sB) (lA : LV sA 2) (wB : WF sB 2) : LV sB 2 := by
  refine ⟨wB, ?_⟩
  have W := cx.2.1
  have nn := W.nn
  have h2 := lA.2
  have one : ∀ (s : ST), NEW s0 b p c its s → sm (fun d => s.1 151 (40 * 2 + s.1 145 (8 * 2 + d))) 0 (s.1 143 2).toNat = sm (fun d => An s (s0.1 145 (8 * b + d))) 0 (s0.1 143 b).toNat := by
    intro s h
    rw [h.2.1]
    refine sm_congr _ (fun d d0 d1 => ?_)
    show s.1 151 (40 * 2 + s.1 145 (8 * 2 + d)) = s.1 151 (80 + s.1 182 (s0.1 145 (8 * b + d)))
    rw [show (8 : Int) * 2 + d = 16 + d by omega, h.2.2.2.1 d d0 (by omega), (h.2.2.2.2.1 d d0 (by omega)).1, show (40 : Int) * 2 + Od s0 b p c d = 80 + Od s0 b p c d by omega]
  rw [one sA nA] at h2
  rw [one sB nB, ← sm_congr (f := fun d => An sA (s0.1 145 (8 * b + d))) (g := fun d => An sB (s0.1 145 (8 * b + d))) _ (fun d d0 d1 => ?_)]
  · exact h2
  · have hr := W.dR d0 (show d < s0.1 143 b by omega)
    have he := W.en hr.1 hr.2
    have hle := Od_le cx d.toNat d (by omega) (by omega)
    have f1 := (nA.2.2.2.2.1 d d0 (by omega)).1
    have f2 := (nB.2.2.2.2.1 d d0 (by omega)).1
    exact asks_one cx nA nB lA wB 4000 _ (by omega) hr.1 hr.2 (by omega) (by omega)
theorem c_X11_apply {s : ST} {p : Int} {Q : ST → Int → Prop} (hb : BK s) (hl : LD s) (ht : TR s) (hi : s.1 139 63 ≠ 0 → HI s)
    (hQ : ∀ s' v, md apF apC s s' → (∀ x, 3 ≤ x → x ≤ 5 → WX s x s' x) → BK s' → LD s' → TR s' → (s'.1 139 63 ≠ 0 → HI s') → (s'.1 139 92 = s.1 139 92 ∨ s'.1 139 92 = 0) → Q s' v) : C_X11_apply s p Q := by
  have b01 := hb.1
  have k54 : ∀ s2, md fhF fhC s s2 → KB s s2 → FHI s2 → (0 ≤ p ∧ p < s2.1 139 70) → (s2.1 185 p = 1 → MLS s2 (ML s2 (s2.1 139 28) (s2.1 184 p))) → K_X11_apply_54 s2 p Q := by
    intro s2 m2 kb2 h2 hp hms
    obtain ⟨b2, l2, t2, i2⟩ := h2
    obtain ⟨s0, sN, its, c1, c2, c3, c4, c5⟩ := i2.2 p hp.1 hp.2
    have i70 := i2.1
    have e28 := m2.f 139 28 (by decide) (by decide)
    refine s_X11_apply_54 fun _ _ => ⟨⟨by omega, by omega⟩, ?_⟩
    refine c_X11_isHint c1 c2.1 rfl (fun hc => ?_) b2 l2 fun s3 v3 m3 kb3 nw3 W3 lv3 l3 b3 => fun _ => ?_
    · have h5 := c5 hc
      have hm := hms hc
      have hw := (c1.2.2.2.2 hc).1
      have hlt : (s2.1 186 p).toNat < (ML s2 (s2.1 139 28) (s2.1 184 p)).length := by
        rcases List.getElem?_eq_some_iff.mp h5 with ⟨h, _⟩
        exact h
      have := hm.2 _ hlt
      rw [show (((s2.1 186 p).toNat : Nat) : Int) = s2.1 186 p by omega, h5] at this
      exact (Option.some.inj this).symm
    · have L3 := LV.again c1 c3 nw3 c4 W3
      have f28 := m3.f 139 28 (by decide) (by decide)
      rw [f28, e28]
      have m4 : md [(139, 28)] [] s3 (ui s3 139 28 (1 - s.1 139 28)) := (by repeat' (first | exact md.rf | assumption | refine md.ui ?_ ?_ | refine md.uj ?_ ?_ | exact Or.inr (by decide) | exact Or.inl (by decide)))
      have g28 : (ui s3 139 28 (1 - s.1 139 28)).1 139 28 = 1 - s.1 139 28 := ui_same
      refine ⟨⟨by omega, by omega⟩, ?_⟩
      generalize (ui s3 139 28 (1 - s.1 139 28)) = s4 at *
      refine c_X11_copyBank (by omega) (by omega) (by omega) fun s5 m5 be5 bo5 => ?_
      refine c_X11_begin fun s6 m6 t6 z92 z49 z62 z63 => ?_
      have h28 : s6.1 139 28 = 1 - s.1 139 28 := by rw [m6.f 139 28 (by decide) (by decide), m5.f 139 28 (by decide) (by decide)]; exact g28
      have mall : md apF apC s s6 := ((((m2.mono (by decide) (by decide)).tr (m3.mono (by decide) (by decide))).tr (m4.mono (by decide) (by decide))).tr (m5.mono (by decide) (by decide))).tr (m6.mono (by decide) (by decide))
      have bk6 : BK s6 := by
        refine ⟨by omega, ?_⟩
        rw [h28]
        have q1 : WX s4 2 s5 (1 - s.1 139 28) := bank_wx be5
        have q2 : WX s5 (1 - s.1 139 28) s6 (1 - s.1 139 28) := WX.md m6 (by decide) (by decide)
        have q0 : WX s3 2 s4 2 := WX.md m4 (by decide) (by decide)
        exact L3.copy ((q0.tr q1).tr q2).1 (by omega)
      refine ⟨⟨by omega, by omega⟩, hQ s6 _ mall (fun x x0 x1 => ?_) bk6 (fun e => ?_) t6 (fun e => absurd z63 e) (Or.inr z92)⟩
      · exact ((((kb2 x (Or.inr ⟨x0, x1⟩)).tr (kb3 x (Or.inr ⟨x0, x1⟩))).tr (WX.md m4 (by decide) (by decide))).tr (bank_wx (bo5 x (by omega) (by omega) (by omega)))).tr (WX.md m6 (by decide) (by decide))
      · omega
  refine s_X11_apply fun _ _ => ⟨⟨by omega, by omega⟩, fun _ => hQ s _ md.rf (fun x _ _ => .rf) hb hl ht hi (Or.inl rfl), fun _ => ⟨fun p0 => c_X11_findHints hb hl ht hi fun s2 m2 kb2 h2 => ?_, fun _ => hQ s _ md.rf (fun x _ _ => .rf) hb hl ht hi (Or.inl rfl)⟩⟩
  have h70 := h2.2.2.2.1
  refine ⟨fun hlt => ⟨⟨by omega, by omega⟩, fun hne => k54 s2 m2 kb2 h2 ⟨p0, hlt⟩ (fun h => absurd h hne), fun heq => ?_⟩, fun _ => hQ s2 _ (m2.mono (by decide) (by decide)) (fun x x0 x1 => kb2 x (Or.inr ⟨x0, x1⟩)) h2.1 h2.2.1 h2.2.2.1 (fun _ => h2.2.2.2) (Or.inl (m2.f 139 92 (by decide) (by decide)))⟩
  obtain ⟨b2, l2, t2, i2⟩ := id h2
  obtain ⟨s0, sN, its, c1, c2, c3, c4, c5⟩ := i2.2 p p0 hlt
  have hpp := c1.2.2.1
  have hn := c2.1.1.1
  refine c_X11_layMeant b2.1 b2.2.1 rfl hpp.1 (by omega) fun s3 m3 ms3 vm3 len3 => ?_
  have kb3 : KB s2 s3 := fun x _ => WX.md m3 (by decide) (by decide)
  have e28 := m3.f 139 28 (by decide) (by decide)
  have e184 := m3.c 184 (by decide) (by decide) p
  refine k54 s3 (m2.tr (m3.mono (by decide) (by decide))) (kb2.tr kb3) ⟨b2.keep m3 (by decide) (by decide), l2.kp m3 (by decide) (by decide), t2.keep m3 (by decide) (by decide), i2.keep b2 (kb3 _ (Or.inl b2.1)) m3 (by decide) (by decide)⟩ ⟨p0, by rw [m3.f 139 70 (by decide) (by decide)]; exact hlt⟩ (fun _ => ?_)
  rw [e28, e184, ML.copy (kb3 _ (Or.inl b2.1)) b2.2.1 hpp.1 (by omega)]
  exact ms3
