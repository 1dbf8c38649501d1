/-! READING ALIKE: both tokens tell the same -/
def W47 (x : ST) : Prop := ∀ k : Nat, k < 24 → x.2 47 k = Int64.ofNat (ow.getD k 0)
def TXR (x m : ST) : Prop := x.1 46 3 = m.1 139 3 ∧ (0 ≤ m.1 139 3 ∧ m.1 139 3 ≤ 1600) ∧ (∀ p, 0 ≤ p → p < m.1 139 3 → iand (x.1 1 p) 255 = iand (m.1 141 p) 255) ∧ m.1 139 5 = x.1 46 1
def TKR (x m : ST) : Prop := x.1 46 6 = m.1 139 6 ∧ x.1 46 4 = m.1 139 7 ∧
  ((x.1 46 5 = 0 ∧ m.1 139 8 = 0) ∨ (x.1 46 5 = 4 ∧ m.1 139 8 = 1) ∨ (x.1 46 5 = 3 ∧ m.1 139 8 = 5) ∨ (x.1 46 5 = 2 ∧ m.1 139 8 = 4) ∨
   (x.1 46 5 = 1 ∧ x.1 46 9 = -1 ∧ m.1 139 8 = 2 ∧ WR (x.2 46 7) (m.2 139 10)) ∨
   (x.1 46 5 = 1 ∧ ∃ k : Nat, k < 24 ∧ x.1 46 9 = k ∧ m.1 139 8 = 3 ∧ m.2 139 10 = Int64.ofNat (kw.getD k 0) ∧ WR (x.2 46 7) (m.2 139 10)))
theorem TXR.sg {x m : ST} (h : TXR x m) {p : Int} (hp : 0 ≤ p) : (F_X7_signAt x p = -1 ↔ m.1 139 3 ≤ p) ∧ (F_X7_signAt x p ≠ -1 → F_X11_sign m p = F_X7_signAt x p) ∧ (F_X7_signAt x p = -1 → F_X11_sign m p = 0) := by
  obtain ⟨h3, hn, hb, _⟩ := h
  unfold F_X7_signAt F_X11_sign
  rw [if_neg (show ¬ p < 0 by omega), h3]
  by_cases c : m.1 139 3 ≤ p
  · rw [if_pos c, if_pos c]
    exact ⟨⟨fun _ => c, fun _ => rfl⟩, fun e => absurd rfl e, fun _ => rfl⟩
  · rw [if_neg c, if_neg (show ¬ 1600 ≤ p by omega), if_neg c]
    have := iand_le (x := x.1 1 p) (y := 255) (by omega) (by omega)
    exact ⟨⟨fun e => by omega, fun e => absurd e c⟩, fun _ => (hb p hp (by omega)).symm, fun e => by omega⟩
section ALIKE
variable {x m x' m' : ST} {g g' : Int → Int} {n p q : Int}
def SGR (g g' : Int → Int) (n : Int) : Prop := ∀ p, 0 ≤ p → (g p = -1 ↔ n ≤ p) ∧ (g p ≠ -1 → g' p = g p) ∧ (g p = -1 → g' p = 0)
theorem SGR_pt (h : SGR g g' n) {P : Int → Prop} (h0 : ¬ P 0) (h1 : ¬ P (-1)) (hp : 0 ≤ p) : P (g p) ↔ P (g' p) := by
  obtain ⟨_, a, b⟩ := h p hp
  by_cases c : g p = -1
  · rw [b c, c]; exact ⟨fun e => absurd e h1, fun e => absurd e h0⟩
  · rw [a c]
theorem SGR_sc (h : SGR g g' n) {P : Int → Prop} (h0 : ¬ P 0) (h1 : ¬ P (-1)) (hp : 0 ≤ p) : SCN g P p q ↔ SCN g' P p q := by
  constructor
  · rintro ⟨a, b, c⟩
    exact ⟨a, fun i i0 i1 => (SGR_pt h h0 h1 (by omega)).mp (b i i0 i1), fun e => c ((SGR_pt h h0 h1 (by omega)).mpr e)⟩
  · rintro ⟨a, b, c⟩
    exact ⟨a, fun i i0 i1 => (SGR_pt h h0 h1 (by omega)).mpr (b i i0 i1), fun e => c ((SGR_pt h h0 h1 (by omega)).mp e)⟩
theorem nLTR0 : ¬ LTR 0 := by unfold LTR; omega
theorem nLTR1 : ¬ LTR (-1) := by unfold LTR; omega
theorem nDGT0 : ¬ DGT 0 := by unfold DGT; omega
theorem nDGT1 : ¬ DGT (-1) := by unfold DGT; omega
theorem nBLK0 : ¬ BLK 0 := by unfold BLK; omega
theorem nBLK1 : ¬ BLK (-1) := by unfold BLK; omega
theorem c256_congr {g g' : Int → Int} {q : Int} : ∀ k : Nat, (∀ i : Nat, i < k → g' (q + i) = g (q + i)) → c256 g' q k = c256 g q k := by
  intro k
  induction k with
  | zero => intro _; rfl
  | succ k ih =>
    intro h
    show 256 * c256 g' q k + (g' (q + k)).toNat = 256 * c256 g q k + (g (q + k)).toNat
    rw [ih fun i hi => h i (by omega), h k (by omega)]
theorem WR_word (h : SGR g g' n) (hq : 0 ≤ q) {r : Int} (hs : SCN g LTR q r) (h8 : r - q ≤ 8) : WR (Int64.ofNat (w32n g q (r - q).toNat)) (Int64.ofNat (c256 g' q (r - q).toNat)) := by
  have hl : ∀ i : Nat, i < (r - q).toNat → LTR (g (q + i)) := fun i hi => hs.2.1 _ (by omega) (by omega)
  obtain ⟨e, l⟩ := c256_cv _ hl
  refine ⟨w32n g q (r - q).toNat, ?_, rfl, ?_⟩
  · refine Nat.lt_of_lt_of_le l (Nat.le_trans (Nat.pow_le_pow_right (by decide) (show (r - q).toNat ≤ 8 by omega)) (by decide))
  · rw [c256_congr _ fun i hi => ?_, e]
    have a := hl i hi
    refine (h (q + i) (by omega)).2.1 fun c => ?_
    rw [c] at a; exact nLTR1 a
theorem WR_own (k : Nat) (hk : k < 24) : WR (Int64.ofNat (ow.getD k 0)) (Int64.ofNat (kw.getD k 0)) := ⟨_, ow_lt k hk, rfl, by rw [kw_cv k hk]⟩
theorem KPT_k {b : Int64} (h : KPT b) : ∃ k : Nat, k < 24 ∧ b = Int64.ofNat (kw.getD k 0) := by
  unfold KPT at h
  rw [kwl_kw, List.mem_map] at h
  obtain ⟨a, ha, rfl⟩ := h
  obtain ⟨k, hk, e⟩ := List.mem_iff_getElem.mp ha
  exact ⟨k, hk, by rw [List.getD_eq_getElem?_getD, List.getElem?_eq_getElem hk, Option.getD_some, e]⟩
theorem KPT_of (k : Nat) (hk : k < 24) : KPT (Int64.ofNat (kw.getD k 0)) := by
  unfold KPT
  rw [kwl_kw, List.mem_map]
  refine ⟨kw.getD k 0, ?_, rfl⟩
  have hk' : k < kw.length := hk
  rw [List.getD_eq_getElem?_getD, List.getElem?_eq_getElem hk', Option.getD_some]
  exact List.getElem_mem hk'
theorem tok_alike (h : SGR g g' n) (hp : 0 ≤ p) (w : W47 x) (a : XTK g p x) (b : RTK g' n p m) : TKR x m := by
  obtain ⟨q, aq, a6, ac⟩ := a
  obtain ⟨q', bq, b6, bc⟩ := b
  obtain rfl : q = q' := ((SGR_sc h nBLK0 nBLK1 hp).mp aq).uniq bq
  have hq : 0 ≤ q := by have := aq.1; omega
  obtain ⟨s1, s2, s3⟩ := h q hq
  have eL : LTR (g q) ↔ LTR (g' q) := SGR_pt h nLTR0 nLTR1 hq
  have eD : DGT (g q) ↔ DGT (g' q) := SGR_pt h nDGT0 nDGT1 hq
  have lq : LTR (g q) → g q ≠ -1 ∧ ¬ DGT (g q) ∧ g q ≠ 59 := fun e => by unfold LTR DGT at *; omega
  have dq : DGT (g q) → g q ≠ -1 ∧ ¬ LTR (g q) ∧ g q ≠ 59 := fun e => by unfold LTR DGT at *; omega
  refine ⟨a6.trans b6.symm, ?_⟩
  rcases ac with ⟨c1, c2, c3⟩ | ⟨c1, r, c2, c3, c4⟩ | ⟨c1, r, c2, c3, c4⟩ | ⟨c1, c2, c3⟩ | ⟨⟨c1, c1b, c1c, c1d⟩, c2, c3⟩
  · have hn := s1.mp c1
    rcases bc with ⟨d1, d2, d3⟩ | ⟨d1, _⟩ | ⟨d1, _⟩ | ⟨d1, _⟩ | ⟨⟨d1, _⟩, _⟩
    · exact ⟨c3.trans d3.symm, Or.inl ⟨c2, d2⟩⟩
    all_goals omega
  · obtain ⟨l1, l2, l3⟩ := lq c1
    have hn : ¬ n ≤ q := fun e => l1 (s1.mpr e)
    have eg := s2 l1
    rcases bc with ⟨d1, _⟩ | ⟨_, _, r', d2, d3, d4⟩ | ⟨_, d1, _⟩ | ⟨_, d1, _⟩ | ⟨⟨_, d1, _⟩, _⟩
    · exact absurd d1 hn
    · obtain rfl : r = r' := ((SGR_sc h nLTR0 nLTR1 hq).mp c2).uniq d2
      refine ⟨c3.trans d3.symm, ?_⟩
      rcases c4 with ⟨e1, e2, e3, e4⟩ | ⟨e1, e2⟩
      · rcases d4 with ⟨f1, f2, f3, f4⟩ | ⟨f1, f2⟩
        · have hw : WR (x.2 46 7) (m.2 139 10) := by rw [e3, f2]; exact WR_word h hq c2 e1
          rcases e4 with ⟨o1, o2⟩ | ⟨o1, o2⟩
          · refine Or.inr (Or.inr (Or.inr (Or.inr (Or.inl ⟨e2, o1, f4 fun hk => ?_, hw⟩))))
            obtain ⟨k, hk1, hk2⟩ := KPT_k hk
            have := (WR.eq (WR_own k hk1) hw).mpr hk2.symm
            exact o2 k (by omega) (by omega) (by rw [w k hk1, this])
          · obtain ⟨k, ek⟩ : ∃ k : Nat, x.1 46 9 = k := ⟨(x.1 46 9).toNat, by omega⟩
            have hk : k < 24 := by omega
            have e9 : Int64.ofNat (ow.getD k 0) = x.2 46 7 := by rw [← w k hk, ← ek]; exact o2
            have eb := (WR.eq (WR_own k hk) hw).mp e9
            exact Or.inr (Or.inr (Or.inr (Or.inr (Or.inr ⟨e2, k, hk, ek, f3 (by rw [← eb]; exact KPT_of k hk), eb.symm, hw⟩))))
        · omega
      · rcases d4 with ⟨f1, _⟩ | ⟨f1, f2⟩
        · omega
        · exact Or.inr (Or.inl ⟨e2, f2⟩)
    · exact absurd (eD.mpr d1) l2
    · exact absurd (eg.symm.trans d1) l3
    · exact absurd (eL.mp c1) d1
  · obtain ⟨l1, l2, l3⟩ := dq c1
    have hn : ¬ n ≤ q := fun e => l1 (s1.mpr e)
    have eg := s2 l1
    rcases bc with ⟨d1, _⟩ | ⟨_, d1, _⟩ | ⟨_, _, r', d2, d3, d4⟩ | ⟨_, d1, _⟩ | ⟨⟨_, _, d1, _⟩, _⟩
    · exact absurd d1 hn
    · exact absurd (eL.mpr d1) l2
    · obtain rfl : r = r' := ((SGR_sc h nDGT0 nDGT1 hq).mp c2).uniq d2
      have hr : 0 ≤ r := by have := c2.1; omega
      have eR : LTR (g r) ↔ LTR (g' r) := SGR_pt h nLTR0 nLTR1 hr
      refine ⟨c3.trans d3.symm, ?_⟩
      rcases c4 with ⟨e1, e2, e3⟩ | ⟨e1, e2⟩
      · rcases d4 with ⟨f1, f2, f3⟩ | ⟨f1, f2⟩
        · exact Or.inr (Or.inr (Or.inr (Or.inl ⟨e3, f3⟩)))
        · rcases f1 with f1 | f1
          · omega
          · exact absurd (eR.mpr f1) e2
      · rcases d4 with ⟨f1, f2, f3⟩ | ⟨f1, f2⟩
        · rcases e1 with e1 | e1
          · omega
          · exact absurd (eR.mp e1) f2
        · exact Or.inr (Or.inl ⟨e2, f2⟩)
    · exact absurd (eg.symm.trans d1) l3
    · exact absurd (eD.mp c1) d1
  · have hn : ¬ n ≤ q := fun e => by have := s1.mpr e; omega
    have eg := s2 (by omega)
    rcases bc with ⟨d1, _⟩ | ⟨_, d1, _⟩ | ⟨_, d1, _⟩ | ⟨_, d1, d2, d3⟩ | ⟨⟨_, _, _, d1⟩, _⟩
    · exact absurd d1 hn
    · exact absurd c1 (lq (eL.mpr d1)).2.2
    · exact absurd c1 (dq (eD.mpr d1)).2.2
    · exact ⟨c3.trans d3.symm, Or.inr (Or.inr (Or.inl ⟨c2, d2⟩))⟩
    · omega
  · have hn : ¬ n ≤ q := fun e => c1 (s1.mpr e)
    have eg := s2 c1
    rcases bc with ⟨d1, _⟩ | ⟨_, d1, _⟩ | ⟨_, d1, _⟩ | ⟨_, d1, _⟩ | ⟨_, d2, d3⟩
    · exact absurd d1 hn
    · exact absurd (eL.mpr d1) c1b
    · exact absurd (eD.mpr d1) c1c
    · exact absurd (eg.symm.trans d1) c1d
    · exact ⟨c3.trans d3.symm, Or.inr (Or.inl ⟨c2, d2⟩)⟩
end ALIKE
