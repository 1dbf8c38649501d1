/-! COPIES: trees of the class, banks of the reference; image. -/
theorem cpI_cell {s : ST} {i j : Nat} {k : Int} {a : Nat} {b : Int} (h : a ≠ j) : (cpI s i j k).1 a b = s.1 a b := if_neg fun q => h q.1
theorem cpI_hit {s : ST} {i j : Nat} {k b : Int} (h0 : 0 ≤ b) (h1 : b < k) : (cpI s i j k).1 j b = s.1 i b := if_pos ⟨rfl, h0, h1⟩
theorem cpI_j {s : ST} {i j : Nat} {k : Int} : (cpI s i j k).2 = s.2 := rfl
theorem cpJ_cell {s : ST} {i j : Nat} {k : Int} {a : Nat} {b : Int} (h : a ≠ j) : (cpJ s i j k).2 a b = s.2 a b := if_neg fun q => h q.1
theorem cpJ_hit {s : ST} {i j : Nat} {k b : Int} (h0 : 0 ≤ b) (h1 : b < k) : (cpJ s i j k).2 j b = s.2 i b := if_pos ⟨rfl, h0, h1⟩
theorem cpJ_i {s : ST} {i j : Nat} {k : Int} : (cpJ s i j k).1 = s.1 := rfl
/-- the tree at t in s' is the one at o in s -/
def treeEq (s : ST) (o : Nat) (s' : ST) (t : Nat) : Prop :=
  (s'.1 t 0 = s.1 o 0 ∧ s'.1 t 1 = s.1 o 1 ∧ s'.1 t 2 = s.1 o 2) ∧ (∀ b, 0 ≤ b → b < 8 → s'.2 (t + 1) b = s.2 (o + 1) b ∧ s'.1 (t + 2) b = s.1 (o + 2) b) ∧
  (∀ b, 0 ≤ b → b < 40 → s'.1 (t + 3) b = s.1 (o + 3) b ∧ s'.1 (t + 4) b = s.1 (o + 4) b ∧ s'.1 (t + 5) b = s.1 (o + 5) b ∧ s'.1 (t + 6) b = s.1 (o + 6) b ∧ s'.1 (t + 7) b = s.1 (o + 7) b ∧ s'.1 (t + 8) b = s.1 (o + 8) b ∧
    s'.2 (t + 10) b = s.2 (o + 10) b ∧ s'.1 (t + 11) b = s.1 (o + 11) b ∧ s'.1 (t + 12) b = s.1 (o + 12) b ∧ s'.1 (t + 13) b = s.1 (o + 13) b) ∧
  (∀ b, 0 ≤ b → b < 120 → s'.1 (t + 9) b = s.1 (o + 9) b) ∧ ∀ b, 0 ≤ b → b < 20 → s'.1 (t + 14) b = s.1 (o + 14) b
theorem c_X9_copyFrom {t o : Nat} {s : ST} {Q : ST → Prop} (hQ : ∀ s' : ST, (∀ a, a < t ∨ t + 14 < a → ∀ b, s'.1 a b = s.1 a b ∧ s'.2 a b = s.2 a b) → (o + 14 < t ∨ t + 14 < o → treeEq s o s' t) → Q s') : C_X9_copyFrom t o s Q := by
  refine s_X9_copyFrom fun _ _ _ => s_X9_copyKindWords fun _ _ _ => hQ _ (fun a ha b => ⟨?_, ?_⟩) (fun h => ?_)
  · simp (disch := omega) only [cpI_cell, cpJ_i, ui_cell]
  · simp (disch := omega) only [cpI_j, cpJ_cell, ui_j]
  · refine ⟨⟨?_, ?_, ?_⟩, fun b h0 h1 => ⟨?_, ?_⟩, fun b h0 h1 => ⟨?_, ?_, ?_, ?_, ?_, ?_, ?_, ?_, ?_, ?_⟩, fun b h0 h1 => ?_, fun b h0 h1 => ?_⟩
    all_goals simp (disch := omega) only [cpI_cell, cpI_hit, cpI_j, cpJ_i, cpJ_cell, cpJ_hit, ui_j, ui_same, ui_cell, ui_ne]
theorem c_X10_image {s : ST} {p : Int} {Q : ST → Int → Prop} (hQ1 : ∀ s' : ST, 0 ≤ p → p < 3 → (∀ a, a < boxT p ∨ boxT p + 14 < a → a ≠ 93 → ∀ b, s'.1 a b = s.1 a b ∧ s'.2 a b = s.2 a b) → treeEq s 2 s' (boxT p) → s'.1 93 p = 1 → (∀ b, b ≠ p → s'.1 93 b = s.1 93 b) → Q s' (s.1 2 1)) (hQ2 : p < 0 ∨ 3 ≤ p → Q s (-1)) : C_X10_image s p Q := by
  refine s_X10_image ?_
  repeat' (with_reducible first | refine ⟨?_, ?_⟩ | intro _)
  · exact hQ2 (by omega)
  · omega
  · omega
  · rename_i h1 h2
    have hb : 94 ≤ boxT p := by unfold boxT; omega
    refine c_X9_copyFrom fun s' hm ht => ?_
    have ht := ht (by omega)
    have e : s'.1 2 1 = s.1 2 1 := (hm 2 (by omega) 1).1
    rw [e]
    refine hQ1 _ (by omega) h2 (fun a ha h93 b => ⟨?_, ?_⟩) ?_ ui_same (fun b hb' => ?_)
    · rw [ui_cell h93]; exact (hm a ha b).1
    · exact (hm a ha b).2
    · obtain ⟨⟨a1, a2, a3⟩, a4, a5, a6, a7⟩ := ht
      refine ⟨⟨?_, ?_, ?_⟩, fun b h0 h1 => ⟨?_, ?_⟩, fun b h0 h1 => ⟨?_, ?_, ?_, ?_, ?_, ?_, ?_, ?_, ?_, ?_⟩, fun b h0 h1 => ?_, fun b h0 h1 => ?_⟩
      all_goals simp (disch := omega) only [ui_cell, ui_j]
      · exact a1
      · exact a2
      · exact a3
      · exact (a4 b h0 h1).1
      · exact (a4 b h0 h1).2
      · exact (a5 b h0 h1).1
      · exact (a5 b h0 h1).2.1
      · exact (a5 b h0 h1).2.2.1
      · exact (a5 b h0 h1).2.2.2.1
      · exact (a5 b h0 h1).2.2.2.2.1
      · exact (a5 b h0 h1).2.2.2.2.2.1
      · exact (a5 b h0 h1).2.2.2.2.2.2.1
      · exact (a5 b h0 h1).2.2.2.2.2.2.2.1
      · exact (a5 b h0 h1).2.2.2.2.2.2.2.2.1
      · exact (a5 b h0 h1).2.2.2.2.2.2.2.2.2
      · exact a6 b h0 h1
      · exact a7 b h0 h1
    · rw [ui_ne hb']; exact (hm 93 (by omega) b).1
  · exact hQ2 (by omega)
/-- bank q of s' is bank p of s -/
def bankEq (s : ST) (p : Int) (s' : ST) (q : Int) : Prop :=
  (s'.1 142 q = s.1 142 p ∧ s'.1 143 q = s.1 143 p ∧ s'.1 144 q = s.1 144 p) ∧ (∀ i, 0 ≤ i → i < 8 → s'.1 145 (8 * q + i) = s.1 145 (8 * p + i) ∧ s'.2 157 (8 * q + i) = s.2 157 (8 * p + i)) ∧
  (∀ i, 0 ≤ i → i < 20 → s'.1 156 (20 * q + i) = s.1 156 (20 * p + i)) ∧
  ∀ i, 0 ≤ i → i < 40 → (s'.1 146 (40 * q + i) = s.1 146 (40 * p + i) ∧ s'.1 147 (40 * q + i) = s.1 147 (40 * p + i) ∧ s'.1 148 (40 * q + i) = s.1 148 (40 * p + i) ∧ s'.1 149 (40 * q + i) = s.1 149 (40 * p + i) ∧ s'.1 150 (40 * q + i) = s.1 150 (40 * p + i) ∧
    s'.1 151 (40 * q + i) = s.1 151 (40 * p + i) ∧ s'.1 153 (40 * q + i) = s.1 153 (40 * p + i) ∧ s'.1 154 (40 * q + i) = s.1 154 (40 * p + i) ∧ s'.1 155 (40 * q + i) = s.1 155 (40 * p + i) ∧ s'.2 158 (40 * q + i) = s.2 158 (40 * p + i)) ∧
    ∀ k, 0 ≤ k → k < 3 → s'.1 152 (3 * (40 * q + i) + k) = s.1 152 (3 * (40 * p + i) + k)
/-- place y of s' is place x of s -/
def placeEq (s : ST) (x : Int) (s' : ST) (y : Int) : Prop :=
  (s'.1 146 y = s.1 146 x ∧ s'.1 147 y = s.1 147 x ∧ s'.1 148 y = s.1 148 x ∧ s'.1 149 y = s.1 149 x ∧ s'.1 150 y = s.1 150 x ∧ s'.1 151 y = s.1 151 x ∧ s'.1 153 y = s.1 153 x ∧ s'.1 154 y = s.1 154 x ∧ s'.1 155 y = s.1 155 x ∧ s'.2 158 y = s.2 158 x) ∧
  ∀ k, 0 ≤ k → k < 3 → s'.1 152 (3 * y + k) = s.1 152 (3 * x + k)
theorem k_copyPlace {x y : Int} {Q : ST → Prop} (hx : 0 ≤ x ∧ x < 240) (hy : 0 ≤ y ∧ y < 240) (hxy : x ≠ y) : ∀ (n : Nat) (s : ST) (j : Int), 3 - j = (n : Int) → 0 ≤ j →
    (∀ s' : ST, md [] [152] s s' → (∀ k, j ≤ k → k < 3 → s'.1 152 (3 * y + k) = s.1 152 (3 * x + k)) → (∀ z, z < 3 * y + j ∨ 3 * y + 3 ≤ z → s'.1 152 z = s.1 152 z) → Q s') → K_X11_copyPlace_122 s x y j Q := by
  intro n
  induction n with
  | zero =>
    intro s j hn hj hQ
    refine s_X11_copyPlace_122 ?_
    repeat' (with_reducible first | refine ⟨?_, ?_⟩ | intro _)
    all_goals first | omega | skip
    exact hQ _ md.rf (fun k h1 h2 => by omega) (fun z _ => rfl)
  | succ n ih =>
    intro s j hn hj hQ
    refine s_X11_copyPlace_122 ?_
    repeat' (with_reducible first | refine ⟨?_, ?_⟩ | intro _)
    all_goals first | omega | skip
    refine ih _ _ (by omega) (by omega) (fun s' hm h1 h2 => hQ s' ((md.rf.ui (Or.inr (by decide))).tr hm) (fun k h3 h4 => ?_) (fun z hz => ?_))
    · by_cases e : k = j
      · rw [h2 _ (by omega), e, ui_same]
      · rw [h1 k (by omega) h4, ui_ne (by omega)]
    · rw [h2 z (by omega), ui_ne (by omega)]
def bankCells : List Nat := [142, 143, 144, 145, 146, 147, 148, 149, 150, 151, 152, 153, 154, 155, 156, 157, 158]
theorem c_X11_copyPlace {s : ST} {x y : Int} {Q : ST → Prop} (hx : 0 ≤ x ∧ x < 240) (hy : 0 ≤ y ∧ y < 240) (hxy : x ≠ y)
    (hQ : ∀ s' : ST, md [] [146, 147, 148, 149, 150, 151, 152, 153, 154, 155, 158] s s' → placeEq s x s' y → (∀ z, z ≠ y → placeEq s z s' z) → Q s') : C_X11_copyPlace s x y Q := by
  refine s_X11_copyPlace ?_
  repeat' (with_reducible first | refine ⟨?_, ?_⟩ | intro _)
  all_goals first | omega | skip
  refine k_copyPlace hx hy hxy 3 _ 0 (by omega) (by omega) (fun s' hm h1 h2 => hQ s' (.tr ?_ (hm.mono (by decide) (by decide))) ⟨?_, fun k h3 h4 => ?_⟩ (fun z hz => ⟨?_, fun k h3 h4 => ?_⟩))
  · refine md.uj (.ui (.ui (.ui (.ui (.ui (.ui (.ui (.ui (.ui md.rf ?_) ?_) ?_) ?_) ?_) ?_) ?_) ?_) ?_) ?_
    all_goals exact Or.inr (by decide)
  · refine ⟨?_, ?_, ?_, ?_, ?_, ?_, ?_, ?_, ?_, ?_⟩
    · rw [hm.c 146 (by decide) (by decide)]; simp only [uj_i, ui_same, ui_cell (by decide : 146 ≠ 147), ui_cell (by decide : 146 ≠ 148), ui_cell (by decide : 146 ≠ 149), ui_cell (by decide : 146 ≠ 150), ui_cell (by decide : 146 ≠ 151), ui_cell (by decide : 146 ≠ 153), ui_cell (by decide : 146 ≠ 154), ui_cell (by decide : 146 ≠ 155)]
    all_goals first | rw [hm.c 147 (by decide) (by decide)] | rw [hm.c 148 (by decide) (by decide)] | rw [hm.c 149 (by decide) (by decide)] | rw [hm.c 150 (by decide) (by decide)] | rw [hm.c 151 (by decide) (by decide)] | rw [hm.c 153 (by decide) (by decide)] | rw [hm.c 154 (by decide) (by decide)] | rw [hm.c 155 (by decide) (by decide)] | rw [hm.cj 158 (by decide) (by decide)]
    all_goals simp (disch := decide) only [uj_i, ui_j, uj_same, ui_same, ui_cell]
  · rw [h1 k h3 h4]; simp (disch := decide) only [uj_i, ui_cell]
  · refine ⟨?_, ?_, ?_, ?_, ?_, ?_, ?_, ?_, ?_, ?_⟩
    all_goals first | rw [hm.c 146 (by decide) (by decide)] | rw [hm.c 147 (by decide) (by decide)] | rw [hm.c 148 (by decide) (by decide)] | rw [hm.c 149 (by decide) (by decide)] | rw [hm.c 150 (by decide) (by decide)] | rw [hm.c 151 (by decide) (by decide)] | rw [hm.c 153 (by decide) (by decide)] | rw [hm.c 154 (by decide) (by decide)] | rw [hm.c 155 (by decide) (by decide)] | rw [hm.cj 158 (by decide) (by decide)]
    all_goals simp [ui, uj, hz]
  · rw [h2 _ (by omega)]; simp (disch := decide) only [uj_i, ui_cell]
theorem placeEq.rf {s : ST} {x : Int} : placeEq s x s x := ⟨⟨rfl, rfl, rfl, rfl, rfl, rfl, rfl, rfl, rfl, rfl⟩, fun _ _ _ => rfl⟩
theorem placeEq.tr {s s1 s2 : ST} {x y z : Int} (h : placeEq s x s1 y) (k : placeEq s1 y s2 z) : placeEq s x s2 z := by
  obtain ⟨⟨h1, h2, h3, h4, h5, h6, h7, h8, h9, h10⟩, h11⟩ := h
  obtain ⟨⟨k1, k2, k3, k4, k5, k6, k7, k8, k9, k10⟩, k11⟩ := k
  exact ⟨⟨k1.trans h1, k2.trans h2, k3.trans h3, k4.trans h4, k5.trans h5, k6.trans h6, k7.trans h7, k8.trans h8, k9.trans h9, k10.trans h10⟩, fun k a b => (k11 k a b).trans (h11 k a b)⟩
theorem k_copyBank1 {p q : Int} {Q : ST → Prop} (hp : 0 ≤ p ∧ p < 6) (hq : 0 ≤ q ∧ q < 6) (hpq : p ≠ q) : ∀ (n : Nat) (s : ST) (j : Int), 8 - j = (n : Int) → 0 ≤ j →
    (∀ s' : ST, md [] [145, 157] s s' → (∀ i, j ≤ i → i < 8 → s'.1 145 (8 * q + i) = s.1 145 (8 * p + i) ∧ s'.2 157 (8 * q + i) = s.2 157 (8 * p + i)) → (∀ z, z < 8 * q + j ∨ 8 * q + 8 ≤ z → s'.1 145 z = s.1 145 z ∧ s'.2 157 z = s.2 157 z) → K_X11_copyBank_96 s' p q 0 Q) → K_X11_copyBank_38 s p q j Q := by
  intro n
  induction n with
  | zero =>
    intro s j hn hj hQ
    refine s_X11_copyBank_38 ?_
    repeat' (with_reducible first | refine ⟨?_, ?_⟩ | intro _)
    all_goals first | omega | skip
    exact hQ _ md.rf (fun k h1 h2 => by omega) (fun z _ => ⟨rfl, rfl⟩)
  | succ n ih =>
    intro s j hn hj hQ
    refine s_X11_copyBank_38 ?_
    repeat' (with_reducible first | refine ⟨?_, ?_⟩ | intro _)
    all_goals first | omega | skip
    refine ih _ _ (by omega) (by omega) (fun s' hm h1 h2 => hQ s' (((md.rf.ui (Or.inr (by decide))).uj (Or.inr (by decide))).tr hm) (fun k h3 h4 => ?_) (fun z hz => ?_))
    · by_cases e : k = j
      · rw [(h2 _ (by omega)).1, (h2 _ (by omega)).2, e, uj_same, uj_i, ui_same]; exact ⟨rfl, rfl⟩
      · rw [(h1 k (by omega) h4).1, (h1 k (by omega) h4).2, uj_ne (by omega), uj_i, ui_ne (by omega)]; exact ⟨rfl, rfl⟩
    · rw [(h2 z (by omega)).1, (h2 z (by omega)).2, uj_ne (by omega), uj_i, ui_ne (by omega)]; exact ⟨rfl, rfl⟩
theorem k_copyBank2 {p q : Int} {Q : ST → Prop} (hp : 0 ≤ p ∧ p < 6) (hq : 0 ≤ q ∧ q < 6) (hpq : p ≠ q) : ∀ (n : Nat) (s : ST) (j : Int), 20 - j = (n : Int) → 0 ≤ j →
    (∀ s' : ST, md [] [156] s s' → (∀ i, j ≤ i → i < 20 → s'.1 156 (20 * q + i) = s.1 156 (20 * p + i)) → (∀ z, z < 20 * q + j ∨ 20 * q + 20 ≤ z → s'.1 156 z = s.1 156 z) → K_X11_copyBank_132 s' p q 0 Q) → K_X11_copyBank_96 s p q j Q := by
  intro n
  induction n with
  | zero =>
    intro s j hn hj hQ
    refine s_X11_copyBank_96 ?_
    repeat' (with_reducible first | refine ⟨?_, ?_⟩ | intro _)
    all_goals first | omega | skip
    exact hQ _ md.rf (fun k h1 h2 => by omega) (fun z _ => rfl)
  | succ n ih =>
    intro s j hn hj hQ
    refine s_X11_copyBank_96 ?_
    repeat' (with_reducible first | refine ⟨?_, ?_⟩ | intro _)
    all_goals first | omega | skip
    refine ih _ _ (by omega) (by omega) (fun s' hm h1 h2 => hQ s' ((md.rf.ui (Or.inr (by decide))).tr hm) (fun k h3 h4 => ?_) (fun z hz => ?_))
    · by_cases e : k = j
      · rw [h2 _ (by omega), e, ui_same]
      · rw [h1 k (by omega) h4, ui_ne (by omega)]
    · rw [h2 z (by omega), ui_ne (by omega)]
theorem k_copyBank3 {p q : Int} {Q : ST → Prop} (hp : 0 ≤ p ∧ p < 6) (hq : 0 ≤ q ∧ q < 6) (hpq : p ≠ q) : ∀ (n : Nat) (s : ST) (j : Int), 40 - j = (n : Int) → 0 ≤ j →
    (∀ s' : ST, md [] [146, 147, 148, 149, 150, 151, 152, 153, 154, 155, 158] s s' → (∀ i, j ≤ i → i < 40 → placeEq s (40 * p + i) s' (40 * q + i)) → (∀ z, z < 40 * q + j ∨ 40 * q + 40 ≤ z → placeEq s z s' z) → Q s') → K_X11_copyBank_132 s p q j Q := by
  intro n
  induction n with
  | zero =>
    intro s j hn hj hQ
    refine s_X11_copyBank_132 ?_
    repeat' (with_reducible first | refine ⟨?_, ?_⟩ | intro _)
    all_goals first | omega | skip
    exact hQ _ md.rf (fun k h1 h2 => by omega) (fun z _ => .rf)
  | succ n ih =>
    intro s j hn hj hQ
    refine s_X11_copyBank_132 ?_
    repeat' (with_reducible first | refine ⟨?_, ?_⟩ | intro _)
    all_goals first | omega | skip
    refine c_X11_copyPlace (by omega) (by omega) (by omega) (fun s1 hm1 h5 h6 => ?_)
    repeat' (with_reducible first | refine ⟨?_, ?_⟩ | intro _)
    all_goals first | omega | skip
    refine ih _ _ (by omega) (by omega) (fun s' hm h1 h2 => hQ s' (hm1.tr hm) (fun k h3 h4 => ?_) (fun z hz => ?_))
    · by_cases e : k = j
      · subst e; exact h5.tr (h2 _ (by omega))
      · exact (h6 _ (by omega)).tr (h1 k (by omega) h4)
    · exact (h6 z (by omega)).tr (h2 z (by omega))
theorem c_X11_copyBank {s : ST} {p q : Int} {Q : ST → Prop} (hp : 0 ≤ p ∧ p < 6) (hq : 0 ≤ q ∧ q < 6) (hpq : p ≠ q)
    (hQ : ∀ s' : ST, md [] bankCells s s' → bankEq s p s' q → (∀ r, 0 ≤ r → r < 6 → r ≠ q → bankEq s r s' r) → Q s') : C_X11_copyBank s p q Q := by
  refine s_X11_copyBank ?_
  repeat' (with_reducible first | refine ⟨?_, ?_⟩ | intro _)
  all_goals first | omega | skip
  refine k_copyBank1 hp hq hpq 8 _ 0 (by omega) (by omega) (fun s1 m1 a1 b1 => k_copyBank2 hp hq hpq 20 _ 0 (by omega) (by omega) (fun s2 m2 a2 b2 => k_copyBank3 hp hq hpq 40 _ 0 (by omega) (by omega) (fun s3 m3 a3 b3 => ?_)))
  have m0 : md [] [142, 143, 144] s (ui (ui (ui s 142 q (s.1 142 p)) 143 q (s.1 143 p)) 144 q (s.1 144 p)) := ((md.rf.ui (Or.inr (by decide))).ui (Or.inr (by decide))).ui (Or.inr (by decide))
  have m03 : md [] bankCells s s3 := ((m0.mono (by decide) (by decide)).tr (m1.mono (by decide) (by decide))).tr ((m2.mono (by decide) (by decide)).tr (m3.mono (by decide) (by decide)))
  have key : ∀ r t, 0 ≤ r → r < 6 → 0 ≤ t → t < 6 → (t = q → r = p) → (t ≠ q → r = t) → bankEq s r s3 t := by
    intro r t hr0 hr1 ht0 ht1 hq1 hq2
    have e1 : ∀ c, c ∈ [142, 143, 144] → s3.1 c t = (ui (ui (ui s 142 q (s.1 142 p)) 143 q (s.1 143 p)) 144 q (s.1 144 p)).1 c t := by
      intro c hc
      simp only [List.mem_cons, List.not_mem_nil, or_false] at hc
      rcases hc with rfl | rfl | rfl
      · rw [m3.c 142 (by decide) (by decide), m2.c 142 (by decide) (by decide), m1.c 142 (by decide) (by decide)]
      · rw [m3.c 143 (by decide) (by decide), m2.c 143 (by decide) (by decide), m1.c 143 (by decide) (by decide)]
      · rw [m3.c 144 (by decide) (by decide), m2.c 144 (by decide) (by decide), m1.c 144 (by decide) (by decide)]
    refine ⟨⟨?_, ?_, ?_⟩, fun i h0 h1 => ?_, fun i h0 h1 => ?_, fun i h0 h1 => ?_⟩
    · rw [e1 142 (by decide), ui_cell (by decide), ui_cell (by decide)]
      by_cases e : t = q
      · rw [e, ui_same, hq1 e]
      · rw [ui_ne e, hq2 e]
    · rw [e1 143 (by decide), ui_cell (by decide)]
      by_cases e : t = q
      · rw [e, ui_same, hq1 e]
      · rw [ui_ne e, ui_cell (by decide), hq2 e]
    · rw [e1 144 (by decide)]
      by_cases e : t = q
      · rw [e, ui_same, hq1 e]
      · rw [ui_ne e, ui_cell (by decide), ui_cell (by decide), hq2 e]
    · rw [m3.c 145 (by decide) (by decide), m3.cj 157 (by decide) (by decide), m2.c 145 (by decide) (by decide), m2.cj 157 (by decide) (by decide)]
      by_cases e : t = q
      · rw [e, (a1 i h0 h1).1, (a1 i h0 h1).2, m0.c 145 (by decide) (by decide), m0.cj 157 (by decide) (by decide), hq1 e]; exact ⟨rfl, rfl⟩
      · rw [(b1 _ (by omega)).1, (b1 _ (by omega)).2, m0.c 145 (by decide) (by decide), m0.cj 157 (by decide) (by decide), hq2 e]; exact ⟨rfl, rfl⟩
    · rw [m3.c 156 (by decide) (by decide)]
      by_cases e : t = q
      · rw [e, a2 i h0 h1, m1.c 156 (by decide) (by decide), m0.c 156 (by decide) (by decide), hq1 e]
      · rw [b2 _ (by omega), m1.c 156 (by decide) (by decide), m0.c 156 (by decide) (by decide), hq2 e]
    · have pe : ∀ x, placeEq s x s2 x := by
        intro x
        refine ⟨⟨?_, ?_, ?_, ?_, ?_, ?_, ?_, ?_, ?_, ?_⟩, fun k _ _ => ?_⟩
        · rw [m2.c 146 (by decide) (by decide), m1.c 146 (by decide) (by decide), m0.c 146 (by decide) (by decide)]
        · rw [m2.c 147 (by decide) (by decide), m1.c 147 (by decide) (by decide), m0.c 147 (by decide) (by decide)]
        · rw [m2.c 148 (by decide) (by decide), m1.c 148 (by decide) (by decide), m0.c 148 (by decide) (by decide)]
        · rw [m2.c 149 (by decide) (by decide), m1.c 149 (by decide) (by decide), m0.c 149 (by decide) (by decide)]
        · rw [m2.c 150 (by decide) (by decide), m1.c 150 (by decide) (by decide), m0.c 150 (by decide) (by decide)]
        · rw [m2.c 151 (by decide) (by decide), m1.c 151 (by decide) (by decide), m0.c 151 (by decide) (by decide)]
        · rw [m2.c 153 (by decide) (by decide), m1.c 153 (by decide) (by decide), m0.c 153 (by decide) (by decide)]
        · rw [m2.c 154 (by decide) (by decide), m1.c 154 (by decide) (by decide), m0.c 154 (by decide) (by decide)]
        · rw [m2.c 155 (by decide) (by decide), m1.c 155 (by decide) (by decide), m0.c 155 (by decide) (by decide)]
        · rw [m2.cj 158 (by decide) (by decide), m1.cj 158 (by decide) (by decide), m0.cj 158 (by decide) (by decide)]
        · rw [m2.c 152 (by decide) (by decide), m1.c 152 (by decide) (by decide), m0.c 152 (by decide) (by decide)]
      by_cases e : t = q
      · rw [e, hq1 e]; exact (pe _).tr (a3 i h0 h1)
      · rw [hq2 e]; exact (pe _).tr (b3 _ (by omega))
  exact hQ s3 m03 (key p q hp.1 hp.2 hq.1 hq.2 (fun _ => rfl) (fun h => absurd rfl h)) (fun r h0 h1 h2 => key r r h0 h1 h0 h1 (fun h => absurd h h2) (fun _ => rfl))
theorem k_image {p : Int} {Q : ST → Int → Prop} (hp : 0 ≤ p ∧ p < 3) : ∀ (n : Nat) (s : ST) (j : Int), 40 - j = (n : Int) → 0 ≤ j → 0 ≤ s.1 139 28 → s.1 139 28 < 6 →
    (∀ s' : ST, md [] [202, 203] s s' → (∀ i, j ≤ i → i < 40 → s'.1 202 (40 * p + i) = s.1 176 i) → (∀ z, z < 40 * p + j ∨ 40 * p + 40 ≤ z → s'.1 202 z = s.1 202 z) → s'.1 203 p = 1 → (∀ b, b ≠ p → s'.1 203 b = s.1 203 b) → Q s' (s.1 142 (s.1 139 28))) → K_X11_image_24 s p j Q := by
  intro n
  induction n with
  | zero =>
    intro s j hn hj h0 h1 hQ
    refine s_X11_image_24 ?_
    repeat' (with_reducible first | refine ⟨?_, ?_⟩ | intro _)
    all_goals first | omega | skip
    exact hQ _ (md.rf.ui (Or.inr (by decide))) (fun k h1 h2 => by omega) (fun z _ => ui_cell (by decide)) ui_same (fun b hb => ui_ne hb)
  | succ n ih =>
    intro s j hn hj h0 h1 hQ
    refine s_X11_image_24 ?_
    repeat' (with_reducible first | refine ⟨?_, ?_⟩ | intro _)
    all_goals first | omega | skip
    refine ih _ _ (by omega) (by omega) (by rw [ui_cell (by decide)]; exact h0) (by rw [ui_cell (by decide)]; exact h1) (fun s' hm h1 h2 h3 h4 => ?_)
    rw [ui_cell (by decide), ui_cell (by decide)]
    refine hQ s' ((md.rf.ui (Or.inr (by decide))).tr hm) (fun k h5 h6 => ?_) (fun z hz => ?_) h3 (fun b hb => ?_)
    · by_cases e : k = j
      · rw [h2 _ (by omega), e, ui_same]
      · rw [h1 k (by omega) h6, ui_cell (by decide)]
    · rw [h2 z (by omega), ui_ne (by omega)]
    · rw [h4 b hb, ui_cell (by decide)]
theorem c_X11_image {s : ST} {p : Int} {Q : ST → Int → Prop} (h0 : 0 ≤ s.1 139 28) (h1 : s.1 139 28 < 3)
    (hQ1 : ∀ s' : ST, 0 ≤ p → p < 3 → md [] (202 :: 203 :: bankCells) s s' → bankEq s (s.1 139 28) s' (3 + p) → (∀ r, 0 ≤ r → r < 6 → r ≠ 3 + p → bankEq s r s' r) → (∀ i, 0 ≤ i → i < 40 → s'.1 202 (40 * p + i) = s.1 176 i) → (∀ z, z < 40 * p ∨ 40 * p + 40 ≤ z → s'.1 202 z = s.1 202 z) → s'.1 203 p = 1 → (∀ b, b ≠ p → s'.1 203 b = s.1 203 b) → Q s' (s.1 142 (s.1 139 28)))
    (hQ2 : p < 0 ∨ 3 ≤ p → Q s (-1)) : C_X11_image s p Q := by
  refine s_X11_image ?_
  repeat' (with_reducible first | refine ⟨?_, ?_⟩ | intro _)
  all_goals first | omega | skip
  · rename_i hp
    refine c_X11_copyBank (by omega) (by omega) (by omega) (fun s1 m1 e1 o1 => ?_)
    have f28 := m1.f 139 28 (by decide) (by decide)
    refine k_image (by omega) 40 _ 0 (by omega) (by omega) (by rw [f28]; exact h0) (by rw [f28]; omega) (fun s' hm a b c d => ?_)
    have ob := o1 (s.1 139 28) (by omega) (by omega) (by omega)
    rw [f28, ob.1.1]
    have be : ∀ r x, bankEq s r s1 x → bankEq s r s' x := by
      intro r x hh
      obtain ⟨⟨c1, c2, c3⟩, c4, c5, c6⟩ := hh
      refine ⟨⟨?_, ?_, ?_⟩, fun i g0 g1 => ⟨?_, ?_⟩, fun i g0 g1 => ?_, fun i g0 g1 => ⟨⟨?_, ?_, ?_, ?_, ?_, ?_, ?_, ?_, ?_, ?_⟩, fun k g2 g3 => ?_⟩⟩
      · rw [hm.c 142 (by decide) (by decide)]; exact c1
      · rw [hm.c 143 (by decide) (by decide)]; exact c2
      · rw [hm.c 144 (by decide) (by decide)]; exact c3
      · rw [hm.c 145 (by decide) (by decide)]; exact (c4 i g0 g1).1
      · rw [hm.cj 157 (by decide) (by decide)]; exact (c4 i g0 g1).2
      · rw [hm.c 156 (by decide) (by decide)]; exact c5 i g0 g1
      · rw [hm.c 146 (by decide) (by decide)]; exact (c6 i g0 g1).1.1
      · rw [hm.c 147 (by decide) (by decide)]; exact (c6 i g0 g1).1.2.1
      · rw [hm.c 148 (by decide) (by decide)]; exact (c6 i g0 g1).1.2.2.1
      · rw [hm.c 149 (by decide) (by decide)]; exact (c6 i g0 g1).1.2.2.2.1
      · rw [hm.c 150 (by decide) (by decide)]; exact (c6 i g0 g1).1.2.2.2.2.1
      · rw [hm.c 151 (by decide) (by decide)]; exact (c6 i g0 g1).1.2.2.2.2.2.1
      · rw [hm.c 153 (by decide) (by decide)]; exact (c6 i g0 g1).1.2.2.2.2.2.2.1
      · rw [hm.c 154 (by decide) (by decide)]; exact (c6 i g0 g1).1.2.2.2.2.2.2.2.1
      · rw [hm.c 155 (by decide) (by decide)]; exact (c6 i g0 g1).1.2.2.2.2.2.2.2.2.1
      · rw [hm.cj 158 (by decide) (by decide)]; exact (c6 i g0 g1).1.2.2.2.2.2.2.2.2.2
      · rw [hm.c 152 (by decide) (by decide)]; exact (c6 i g0 g1).2 k g2 g3
    refine hQ1 s' (by omega) (by omega) ((m1.mono (by decide) (by decide)).tr (hm.mono (by decide) (by decide))) (be _ _ e1) (fun r x0 x1 x2 => be _ _ (o1 r x0 x1 x2)) (fun i i0 i1 => ?_) (fun z hz => ?_) c (fun x hx => ?_)
    · rw [a i i0 i1, m1.c 176 (by decide) (by decide)]
    · rw [b z (by omega), m1.c 202 (by decide) (by decide)]
    · rw [d x hx, m1.c 203 (by decide) (by decide)]
  · exact hQ2 (by omega)
