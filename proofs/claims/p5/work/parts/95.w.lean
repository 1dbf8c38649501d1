/-! THE REFERENCE: an e written anew, whole -/
theorem kb_apart {so en : Int → Int} {kd : Int → Int → Int} {nP p c : Int} (t : T1 so en kd nP) (h : CG so p c) {q i j : Int} (q0 : 0 ≤ q) (q1 : q < nP) (i0 : 0 ≤ i) (i1 : i < ar (so q)) (j0 : 0 ≤ j) (j1 : j < ar (so q)) (hij : i ≠ j) : en (kb so kd p c q i) < kb so kd p c q j ∨ en (kb so kd p c q j) < kb so kd p c q i := by
  have two : ∀ x y, 0 ≤ x → x < ar (so q) → 0 ≤ y → y < ar (so q) → x ≠ y → en (kd q x) < kd q y ∨ en (kd q y) < kd q x := fun x y x0 x1 y0 y1 hxy => by
    by_cases e : x < y
    · exact Or.inl (kd_apart t q0 q1 x0 e y1)
    · exact Or.inr (kd_apart t q0 q1 y0 (by omega) x1)
  unfold kb
  by_cases e5 : so q = 5
  · have a5 : ar (so q) = 3 := by rw [e5]; decide
    rw [if_pos e5, if_pos e5]
    by_cases e : q = p ∧ c = 0
    · rw [if_pos e, if_pos e]
      by_cases x : i = 0
      · rw [if_pos x, if_neg (by omega)]; exact two _ _ (by omega) (by omega) (by omega) (by omega) (by omega)
      · rw [if_neg x]
        by_cases y : j = 0
        · rw [if_pos y]; exact two _ _ (by omega) (by omega) (by omega) (by omega) (by omega)
        · rw [if_neg y]; exact two _ _ (by omega) (by omega) (by omega) (by omega) (by omega)
    · rw [if_neg e, if_neg e]
      by_cases x : i = 0
      · rw [if_pos x, if_neg (by omega)]; exact two _ _ (by omega) (by omega) (by omega) (by omega) (by omega)
      · rw [if_neg x]
        by_cases y : j = 0
        · rw [if_pos y]; exact two _ _ (by omega) (by omega) (by omega) (by omega) (by omega)
        · rw [if_neg y]; exact two _ _ (by omega) (by omega) (by omega) (by omega) (by omega)
  · rw [if_neg e5, if_neg e5]
    by_cases e : q = p ∧ c = 0
    · have a2 : ar (so q) = 2 := by
        have e5' := e5
        rw [e.1] at e5' ⊢
        rcases h.2.1 e.2 with x | x | x | x | x | x
        · rw [x]; decide
        · rw [x]; decide
        · rw [x]; decide
        · rw [x]; decide
        · rw [x]; decide
        · exact absurd x e5'
      rw [if_pos e, if_pos e]; exact two _ _ (by omega) (by omega) (by omega) (by omega) (by omega)
    · rw [if_neg e, if_neg e]; exact two _ _ i0 i1 j0 j1 hij
def PO (s0 : ST) (b p c its : Int) (s : ST) (q o : Int) : Prop :=
  s.1 182 q = o ∧ (∀ r, q ≤ r → r ≤ s0.1 150 (40 * b + q) → s.1 182 r = -1 ∨ (o ≤ s.1 182 r ∧ s.1 182 r + nz s0 b p c r ≤ o + nz s0 b p c q)) ∧
  (∀ r k, q ≤ r → r ≤ s0.1 150 (40 * b + q) → 0 ≤ s.1 182 r → 0 ≤ k → k < ar (ns s0 b p c r) → s.1 182 (nk s0 b p c r k) = s.1 182 r + 1 + n2 s0 b p c r k.toNat) ∧
  (∀ x, o ≤ x → x < o + nz s0 b p c q → ∃ r, (q ≤ r ∧ r ≤ s0.1 150 (40 * b + q)) ∧ s.1 182 r = x) ∧
  (∀ r1 r2, q ≤ r1 → r1 < r2 → r2 ≤ s0.1 150 (40 * b + r1) → r1 ≤ s0.1 150 (40 * b + q) → 0 ≤ s.1 182 r2 → 0 ≤ s.1 182 r1 ∧ s.1 182 r1 < s.1 182 r2 ∧ s.1 182 r2 < s.1 182 r1 + nz s0 b p c r1) ∧
  (∀ r, q ≤ r → r ≤ s0.1 150 (40 * b + q) → 0 ≤ s.1 182 r → s.1 146 (80 + s.1 182 r) = ns s0 b p c r ∧ s.1 149 (80 + s.1 182 r) = s0.1 149 (40 * b + r) ∧ s.1 154 (80 + s.1 182 r) = s0.1 154 (40 * b + r) ∧ s.1 155 (80 + s.1 182 r) = s0.1 155 (40 * b + r) ∧ s.1 153 (80 + s.1 182 r) = nv (s.1 182) (nb s0 b p c its r)) ∧
  (∀ r1 r2, q ≤ r1 → r1 ≤ s0.1 150 (40 * b + q) → q ≤ r2 → r2 ≤ s0.1 150 (40 * b + q) → 0 ≤ s.1 182 r1 → s.1 182 r1 = s.1 182 r2 → r1 = r2)
def cell6 (s s' : ST) (z : Int) : Prop := s'.1 146 z = s.1 146 z ∧ s'.1 149 z = s.1 149 z ∧ s'.1 153 z = s.1 153 z ∧ s'.1 154 z = s.1 154 z ∧ s'.1 155 z = s.1 155 z ∧ s'.2 158 z = s.2 158 z
def TW (s s' : ST) (q e o n : Int) : Prop := md [] [142, 146, 147, 148, 149, 153, 154, 155, 158, 182, 183] s s' ∧ (∀ x, x ≠ 2 → s'.1 142 x = s.1 142 x) ∧ (∀ z, z < 80 + o ∨ 120 ≤ z → cell6 s s' z) ∧ (∀ r, r < q ∨ e < r → s'.1 182 r = s.1 182 r) ∧ (∀ i, i < n → s'.1 183 i = s.1 183 i)
theorem cell6.tr {s s' s'' : ST} {z : Int} (h : cell6 s s' z) (k : cell6 s' s'' z) : cell6 s s'' z := by
  obtain ⟨h1, h2, h3, h4, h5, h6⟩ := h
  obtain ⟨k1, k2, k3, k4, k5, k6⟩ := k
  exact ⟨k1.trans h1, k2.trans h2, k3.trans h3, k4.trans h4, k5.trans h5, k6.trans h6⟩
theorem SC.tw {s0 s s' : ST} {b c w its q e o n : Int} (b1 : b ≤ 1) (h : SC s0 b c w its s) (t : TW s s' q e o n) (o0 : 0 ≤ o) : SC s0 b c w its s' := by
  obtain ⟨h1, h2, h3, h4, h5⟩ := h
  obtain ⟨m, t2, t3, t4, t5⟩ := t
  refine ⟨by rw [m.f 139 28 (by decide) (by decide)]; exact h1, fun hc => by rw [m.c 187 (by decide) (by decide)]; exact h2 hc, fun z z0 z1 => by rw [m.c 152 (by decide) (by decide)]; exact h3 z z0 z1, fun z z0 z1 => by rw [m.c 150 (by decide) (by decide)]; exact h4 z z0 z1, fun z z0 z1 => ?_⟩
  · obtain ⟨a1, a2, a3, a4, a5, _⟩ := t3 z (Or.inl (by omega))
    rw [a1, a2, a3, a4, a5]
    exact h5 z z0 z1
theorem PO.keep {s0 s s' : ST} {b p c its q o : Int} (h : PO s0 b p c its s q o) (h1 : ∀ r, q ≤ r → r ≤ s0.1 150 (40 * b + q) → s'.1 182 r = s.1 182 r) (hqe : q ≤ s0.1 150 (40 * b + q)) (h2 : ∀ r, q ≤ r → r ≤ s0.1 150 (40 * b + q) → nv (s'.1 182) (nb s0 b p c its r) = nv (s.1 182) (nb s0 b p c its r)) (h3 : ∀ x, o ≤ x → x < o + nz s0 b p c q → cell6 s s' (80 + x))
    (hk : ∀ r k, q ≤ r → r ≤ s0.1 150 (40 * b + q) → 0 ≤ k → k < ar (ns s0 b p c r) → q ≤ nk s0 b p c r k ∧ nk s0 b p c r k ≤ s0.1 150 (40 * b + q)) (hl : ∀ r r2, q ≤ r → r ≤ s0.1 150 (40 * b + q) → r2 ≤ s0.1 150 (40 * b + r) → r2 ≤ s0.1 150 (40 * b + q)) (hz : ∀ r, q ≤ r → r ≤ s0.1 150 (40 * b + q) → 1 ≤ nz s0 b p c r) : PO s0 b p c its s' q o := by
  obtain ⟨a0, a1, a2, a3, a4, a5, a6⟩ := h
  refine ⟨by rw [h1 q (by omega) hqe]; exact a0, fun r r0 r1 => by rw [h1 r r0 r1]; exact a1 r r0 r1, fun r k r0 r1 f0 k0 k1 => ?_, fun x x0 x1 => ?_, fun r1 r2 b1 b2 b3 b4 f0 => ?_, fun r r0 r1 f0 => ?_, fun r1 r2 b1 b2 b3 b4 f0 fe => a6 r1 r2 b1 b2 b3 b4 (by rw [← h1 r1 b1 b2]; exact f0) (by rw [← h1 r1 b1 b2, ← h1 r2 b3 b4]; exact fe)⟩
  · rw [h1 r r0 r1] at f0 ⊢
    have := hk r k r0 r1 k0 k1
    rw [h1 _ this.1 this.2]
    exact a2 r k r0 r1 f0 k0 k1
  · obtain ⟨r, ⟨r0, r1⟩, e⟩ := a3 x x0 x1
    exact ⟨r, ⟨r0, r1⟩, by rw [h1 r r0 r1]; exact e⟩
  · have b5 := hl r1 r2 b1 b4 b3
    rw [h1 r2 (by omega) b5] at f0 ⊢
    rw [h1 r1 b1 b4]
    exact a4 r1 r2 b1 b2 b3 b4 f0
  · rw [h1 r r0 r1] at f0 ⊢
    have i1 := hz r r0 r1
    have i2 := a1 r r0 r1
    obtain ⟨c1, c2, c3, c4, c5, _⟩ := h3 (s.1 182 r) (by omega) (by omega)
    rw [c1, c2, c3, c4, c5, h2 r r0 r1]
    exact a5 r r0 r1 f0
section TRV
variable {s0 : ST} {b p c w its : Int}
theorem CX.nz_ge (cx : CX s0 b p c w its) {q : Int} (q0 : 0 ≤ q) (q1 : q < s0.1 142 b) : 1 ≤ nz s0 b p c q ∧ nz s0 b p c q ≤ s0.1 150 (40 * b + q) - q + 1 := nsz_ge cx.2.1.1 cx.2.2.1.1 cx.2.2.1.2 q0 q1
theorem CX.nz_sum (cx : CX s0 b p c w its) {q : Int} (q0 : 0 ≤ q) (q1 : q < s0.1 142 b) : nz s0 b p c q = 1 + n2 s0 b p c q (ar (ns s0 b p c q)).toNat := nsz_sum cx.2.1.1 cx.2.2.2.1 cx.2.2.1.1 cx.2.2.1.2 q0 q1
theorem CX.ar_ns (cx : CX s0 b p c w its) (q : Int) : (q = p ∧ c = 4 ∧ ar (ns s0 b p c q) = 0) ∨ (ar (ns s0 b p c q) = ar (s0.1 146 (40 * b + q)) ∧ ¬ (q = p ∧ c = 4)) := nso_ar cx.2.2.2.1 q
theorem CX.kid (cx : CX s0 b p c w its) {q k : Int} (q0 : 0 ≤ q) (q1 : q < s0.1 142 b) (k0 : 0 ≤ k) (k1 : k < ar (ns s0 b p c q)) : q < nk s0 b p c q k ∧ nk s0 b p c q k ≤ s0.1 150 (40 * b + nk s0 b p c q k) ∧ s0.1 150 (40 * b + nk s0 b p c q k) ≤ s0.1 150 (40 * b + q) ∧ nk s0 b p c q k < s0.1 142 b ∧ s0.1 150 (40 * b + nk s0 b p c q k) - nk s0 b p c q k + ar (ns s0 b p c q) ≤ s0.1 150 (40 * b + q) - q := by
  rcases cx.ar_ns q with ⟨_, _, h⟩ | ⟨h, _⟩
  · omega
  · rw [h] at k1 ⊢
    obtain ⟨j, j0, j1, e⟩ := kb_ok (kd := bkd s0 b) cx.2.2.2.1 k0 k1
    have e : nk s0 b p c q k = bkd s0 b q j := e
    rw [e]
    have h1 := cx.2.1.1.kid q0 q1 j0 j1
    have h2 := kid_size cx.2.1.1 q0 q1 j0 j1
    exact ⟨h1.1, h1.2.1, h1.2.2.1, h1.2.2.2, h2⟩
theorem CX.part (cx : CX s0 b p c w its) {q r : Int} (q0 : 0 ≤ q) (q1 : q < s0.1 142 b) (hn : ¬ (q = p ∧ c = 4)) (h1 : q < r) (h2 : r ≤ s0.1 150 (40 * b + q)) : ∃ k, 0 ≤ k ∧ k < ar (ns s0 b p c q) ∧ nk s0 b p c q k ≤ r ∧ r ≤ s0.1 150 (40 * b + nk s0 b p c q k) := by
  rcases cx.ar_ns q with ⟨e1, e2, _⟩ | ⟨h, _⟩
  · exact absurd ⟨e1, e2⟩ hn
  · obtain ⟨k, k0, k1, k2, k3⟩ := cx.2.1.1.part q0 q1 h1 h2
    obtain ⟨j, j0, j1, e⟩ := kb_sur (kd := bkd s0 b) cx.2.2.2.1 k0 k1
    have e : nk s0 b p c q j = bkd s0 b q k := e
    exact ⟨j, j0, by rw [h]; exact j1, by rw [e]; exact k2, by rw [e]; exact k3⟩
theorem CX.apart (cx : CX s0 b p c w its) {q i j : Int} (q0 : 0 ≤ q) (q1 : q < s0.1 142 b) (i0 : 0 ≤ i) (i1 : i < ar (ns s0 b p c q)) (j0 : 0 ≤ j) (j1 : j < ar (ns s0 b p c q)) (hij : i ≠ j) : s0.1 150 (40 * b + nk s0 b p c q i) < nk s0 b p c q j ∨ s0.1 150 (40 * b + nk s0 b p c q j) < nk s0 b p c q i := by
  rcases cx.ar_ns q with ⟨_, _, h⟩ | ⟨h, _⟩
  · omega
  · rw [h] at i1 j1
    exact kb_apart cx.2.1.1 cx.2.2.2.1 q0 q1 i0 i1 j0 j1 hij
theorem n2_succ (q : Int) (j : Nat) : n2 s0 b p c q (j + 1) = n2 s0 b p c q j + nz s0 b p c (nk s0 b p c q (j : Int)) := by
  show sm (fun j => nsz (ben s0 b) p c (kb (bso s0 b) (bkd s0 b) p c q j)) 0 j + nsz (ben s0 b) p c (kb (bso s0 b) (bkd s0 b) p c q (0 + (j : Int))) = _
  rw [Int.zero_add]
  rfl
theorem n2_mono (cx : CX s0 b p c w its) {q : Int} (q0 : 0 ≤ q) (q1 : q < s0.1 142 b) : ∀ (m j : Nat), ((j + m : Nat) : Int) ≤ ar (ns s0 b p c q) → n2 s0 b p c q j + m ≤ n2 s0 b p c q (j + m) := by
  intro m
  induction m with
  | zero => intro j _; exact Int.le_of_eq (Int.add_zero _)
  | succ m ih =>
    intro j hj
    have h1 := ih j (by omega)
    have hk := cx.kid q0 q1 (k := ((j + m : Nat) : Int)) (by omega) (by omega)
    have h2 := (cx.nz_ge (q := nk s0 b p c q ((j + m : Nat) : Int)) (by omega) hk.2.2.2.1).1
    have := n2_succ (s0 := s0) (b := b) (p := p) (c := c) q (j + m)
    rw [show j + (m + 1) = j + m + 1 by omega]
    omega
/-- the place where x comes to lie -/
theorem n2_find (cx : CX s0 b p c w its) {q : Int} (q0 : 0 ≤ q) (q1 : q < s0.1 142 b) : ∀ (a : Nat) (x : Int), (a : Int) ≤ ar (ns s0 b p c q) → 0 ≤ x → x < n2 s0 b p c q a → ∃ k : Nat, k < a ∧ n2 s0 b p c q k ≤ x ∧ x < n2 s0 b p c q k + nz s0 b p c (nk s0 b p c q (k : Int)) := by
  intro a
  induction a with
  | zero =>
    intro x _ h0 h1
    have : n2 s0 b p c q 0 = 0 := rfl
    omega
  | succ a ih =>
    intro x ha h0 h1
    have h2 := n2_succ (s0 := s0) (b := b) (p := p) (c := c) q a
    by_cases c : x < n2 s0 b p c q a
    · obtain ⟨k, k1, k2, k3⟩ := ih x (by omega) h0 c
      exact ⟨k, by omega, k2, k3⟩
    · exact ⟨a, by omega, by omega, by omega⟩
end TRV
