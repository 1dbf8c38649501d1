/-! READING ALIKE: places ended, side by side -/
theorem zar_ar : ∀ j : Fin 17, zarity (j.val : Int) = ar (j.val : Int) := by decide +kernel
theorem arity_ar {x : ST} {p : Int} (h : 0 ≤ p ∧ p < x.1 18 1 ∧ p < 40) (hs : 0 ≤ x.1 21 p ∧ x.1 21 p ≤ 16) : F_X9_arityOf 18 x p = ar (x.1 21 p) := by
  have e : F_X9_sortOf 18 x p = x.1 21 p := by unfold F_X9_sortOf; rw [if_pos (by omega)]
  unfold F_X9_arityOf
  rw [e, if_neg (by omega), if_neg (by omega)]
  have := zar_ar ⟨(x.1 21 p).toNat, by omega⟩
  rw [show (((x.1 21 p).toNat : Nat) : Int) = x.1 21 p by omega] at this
  exact this
theorem parent_26 {x : ST} {p : Int} (h : 0 ≤ p ∧ p < x.1 18 1 ∧ p < 40) : F_X9_parentOf 18 x p = x.1 26 p := by
  unfold F_X9_parentOf; rw [if_pos (by omega)]
theorem kw_in : ∀ j : Fin 24, Int64.ofNat (kw.getD j.val 0) = 26990 ↔ j.val = 23 := by decide +kernel
theorem OKR.isin {x m : ST} (h : OKR x m) : (x.1 46 5 = 1 ∧ x.1 46 9 = 23) ↔ F_X11_isWord m 26990 ≠ 0 := by
  obtain ⟨_, _, ⟨_, _, ht⟩, _⟩ := h
  unfold F_X11_isWord
  rcases ht with h | h | h | h | ⟨h1, h2, h3, h4⟩ | ⟨h1, k, hk, h9, h8, h10, h11⟩
  · rw [if_neg (by omega)]; exact ⟨fun a => by omega, fun a => absurd rfl a⟩
  · rw [if_neg (by omega)]; exact ⟨fun a => by omega, fun a => absurd rfl a⟩
  · rw [if_neg (by omega)]; exact ⟨fun a => by omega, fun a => absurd rfl a⟩
  · rw [if_neg (by omega)]; exact ⟨fun a => by omega, fun a => absurd rfl a⟩
  · rw [if_neg (by omega)]; exact ⟨fun a => by omega, fun a => absurd rfl a⟩
  · rw [if_pos h8, h10]
    have := kw_in ⟨k, hk⟩
    by_cases c : Int64.ofNat (kw.getD k 0) = 26990
    · rw [if_pos c]
      have := this.mp c
      exact ⟨fun _ => by decide, fun _ => ⟨h1, by rw [h9]; show ((k : Nat) : Int) = 23; simp only at this; omega⟩⟩
    · rw [if_neg c]
      refine ⟨fun a => ?_, fun a => absurd rfl a⟩
      exact absurd (this.mpr (by show k = 23; omega)) c
theorem CSI.pop {s0 x : ST} {k : Nat} {st : Int → Int} {n R : Int} {nD : Nat} (h : CSI s0 x (k + 1) st n R nD) : CSI s0 x k st n R nD := by
  obtain ⟨h1, h2, h3, h4, ⟨h5, h6⟩, h7, h8, h9, h10⟩ := h
  refine ⟨h1, h2, h3, h4, ⟨by omega, fun i i0 i1 => ?_⟩, h7, fun _ => Or.inr (h9 (by omega)), fun _ => h9 (by omega), h10⟩
  obtain ⟨a1, a2, a3, a4, a5, a6⟩ := h6 i i0 (by omega)
  exact ⟨a1, a2, a3, a4, fun h => a5 (by omega), a6⟩
theorem OKR.mem {x m m' : ST} {fs : List (Nat × Int)} {cs : List Nat} (h : OKR x m) (mG : md fs cs m m') (h1 : (fs.all fun q => decide (q ∉ [((139 : Nat), (3 : Int)), (139, 4), (139, 5), (139, 6), (139, 7), (139, 8), (139, 10)]) && decide (q.1 ≠ 141)) = true) (h2 : (cs.all fun a => decide (a ≠ 139) && decide (a ≠ 141)) = true) : OKR x m' := by
  have e : ∀ z : Int, z = 3 ∨ z = 4 ∨ z = 5 ∨ z = 6 ∨ z = 7 ∨ z = 8 ∨ z = 10 → m'.1 139 z = m.1 139 z ∧ m'.2 139 z = m.2 139 z := fun z hz => mG 139 z (fun q => by
    have := List.all_eq_true.mp h1 _ q
    rw [Bool.and_eq_true] at this
    refine of_decide_eq_true this.1 ?_
    rcases hz with e | e | e | e | e | e | e <;> rw [e] <;> simp) (fun q => by
    have := List.all_eq_true.mp h2 _ q
    rw [Bool.and_eq_true] at this
    exact of_decide_eq_true this.1 rfl)
  have e1 : m'.1 141 = m.1 141 := funext fun z => (mG 141 z (fun q => by
    have := List.all_eq_true.mp h1 _ q
    rw [Bool.and_eq_true] at this
    exact of_decide_eq_true this.2 rfl) (fun q => by
    have := List.all_eq_true.mp h2 _ q
    rw [Bool.and_eq_true] at this
    exact of_decide_eq_true this.2 rfl)).1
  obtain ⟨a1, a2, a3, a4, a5⟩ := h
  refine ⟨a1.keep rfl rfl (e 3 (by decide)).1 e1 rfl (e 5 (by decide)).1, ?_, ?_, (e 4 (by decide)).1.trans a4, a5⟩
  · unfold RDC at *
    rw [(e 3 (by decide)).1, (e 6 (by decide)).1, (e 7 (by decide)).1]; exact a2
  · unfold TKR at *
    rw [(e 6 (by decide)).1, (e 7 (by decide)).1, (e 8 (by decide)).1, (e 10 (by decide)).2]; exact a3
section POPM
variable {s0 x m m2 : ST} {b : Int} {k : Nat} {st : Int → Int} {n R : Int} {nD : Nat}
theorem pop_m (h : BEGR x m b (k + 1) st n R nD) (cs : CST x (k + 1) st n) (htop : ar (m.1 146 (40 * b + st k)) ≤ m.1 160 k) (mm : md [(139, 32)] [150, 151, 152, 160] m m2) (h32 : m2.1 139 32 = k) (pop : POP m m2 b ((k : Int) + 1) n (st k)) (rp : RP m2 b k n R nD (m.1 144 b)) : BEGR x m2 b k st n R nD := by
  obtain ⟨h1, ⟨h2, h3, h4, h5, h6⟩, h7, h8, h9, h10, h11, h12⟩ := h
  obtain ⟨q1, q2, q3, q4, q5, q6, q7⟩ := pop
  have hst : ∀ i : Int, 0 ≤ i → i < k + 1 → m.1 159 i = st i := fun i i0 i1 => (h12 i i0 (by omega)).1
  have e46 : ∀ z, m2.1 146 z = m.1 146 z := fun z => mm.c 146 (by decide) (by decide) z
  refine ⟨h1.mem mm (by decide) (by decide), ⟨h2, (mm.f 139 29 (by decide) (by decide)).trans h3, h32, (mm.c 142 (by decide) (by decide) b).trans h5, (mm.c 143 (by decide) (by decide) b).trans h6⟩, by rw [mm.c 144 (by decide) (by decide)]; exact h7, by rw [mm.c 144 (by decide) (by decide)]; exact rp, fun p p0 p1 => ?_, fun d d0 d1 => ?_, fun p j p0 p1 j0 hj => ?_, fun i i0 i1 => ?_⟩
  · rw [e46, mm.c 153 (by decide) (by decide), mm.cj 158 (by decide) (by decide)]; exact h9 p p0 p1
  · rw [mm.cj 157 (by decide) (by decide), mm.c 145 (by decide) (by decide)]; exact h10 d d0 d1
  · have e52 : ∀ y c, 0 ≤ c → c ≤ 2 → ((k : Int) + 1 = 1 ∨ y ≠ m.1 159 ((k : Int) + 1 - 2) ∨ c ≠ m.1 160 ((k : Int) + 1 - 2)) → m2.1 152 (3 * (40 * b + y) + c) = m.1 152 (3 * (40 * b + y) + c) := fun y c c0 c2 hh => q6 y c c0 c2 hh
    have har := ar_r (m.1 146 (40 * b + p))
    rcases hj with ⟨ho, hj⟩ | ⟨i, hi, e9, hj⟩
    · rw [e46] at hj
      have par : (k : Int) + 1 = 1 ∨ p ≠ m.1 159 ((k : Int) + 1 - 2) := by
        by_cases k0 : k = 0
        · left; omega
        · right; intro e
          exact ho ⟨(k : Int) - 1, by omega, by rw [q4, show (k : Int) - 1 = (k : Int) + 1 - 2 by omega]; exact e.symm⟩
      rw [e52 p j j0 (by omega) (par.imp id Or.inl)]
      by_cases et : p = st k
      · exact h11 p j p0 p1 j0 (Or.inr ⟨k, by omega, (hst k (by omega) (by omega)).trans et.symm, by rw [et] at hj; omega⟩)
      · refine h11 p j p0 p1 j0 (Or.inl ⟨fun ⟨i, hi, e⟩ => ?_, hj⟩)
        by_cases ek : i = (k : Int)
        · rw [ek, hst k (by omega) (by omega)] at e; exact et e.symm
        · exact ho ⟨i, by omega, (q4 i).trans e⟩
    · rw [q4, hst i hi.1 (by omega)] at e9
      obtain ⟨c1, c2, c3, c4, c5, c6⟩ := cs.2 i hi.1 (by omega)
      have s12 := (h12 i hi.1 (by omega)).2
      rw [if_neg (by omega)] at s12
      by_cases ek : i = (k : Int) - 1
      · obtain ⟨q71, q72⟩ := q7 (by omega)
        rw [show (k : Int) + 1 - 2 = i by omega, hst i hi.1 (by omega)] at q71
        rw [show (k : Int) + 1 - 2 = i by omega] at q72
        rw [q72] at hj
        have q71' : m2.1 152 (3 * (40 * b + st i) + m.1 160 i) = st k := q71
        by_cases ej : j = m.1 160 i
        · rw [← e9, ej, q71']
          have := (c5 (by omega)).2
          rw [show x.1 48 (st i) - 1 = m.1 160 i by omega, show i + 1 = (k : Int) by omega] at this
          exact this
        · rw [e52 p j j0 (by omega) (Or.inr (Or.inr (by rw [show (k : Int) + 1 - 2 = i by omega]; exact ej)))]
          exact h11 p j p0 p1 j0 (Or.inr ⟨i, by omega, (hst i hi.1 (by omega)).trans e9, by omega⟩)
      · rw [q5 i (by omega)] at hj
        rw [e52 p j j0 (by omega) ?_]
        · exact h11 p j p0 p1 j0 (Or.inr ⟨i, by omega, (hst i hi.1 (by omega)).trans e9, hj⟩)
        · right; left
          rw [hst _ (by omega) (by omega), ← e9]
          intro e
          have := cs.inj hi.1 (by omega) (by omega) (by omega) e
          omega
  · obtain ⟨a1, a2⟩ := h12 i i0 (by omega)
    rw [if_neg (by omega)] at a2
    refine ⟨(q4 i).trans a1, ?_⟩
    by_cases ek : i = (k : Int) - 1
    · obtain ⟨_, q72⟩ := q7 (by omega)
      rw [show (k : Int) + 1 - 2 = i by omega] at q72
      rw [q72, a2, if_pos (by omega)]; omega
    · rw [q5 i (by omega), a2, if_neg (by omega)]
end POPM
