/-! THE LIBRARY OF THE STEP ROWS: what stays as it was; bits. -/
/-- from s to s' nothing has changed but the fields fs (cell, place) and the cells cs -/
def md (fs : List (Nat × Int)) (cs : List Nat) (s s' : ST) : Prop := ∀ (a : Nat) (b : Int), (a, b) ∉ fs → a ∉ cs → s'.1 a b = s.1 a b ∧ s'.2 a b = s.2 a b
theorem md.rf {fs : List (Nat × Int)} {cs : List Nat} {s : ST} : md fs cs s s := fun _ _ _ _ => ⟨rfl, rfl⟩
theorem md.tr {fs : List (Nat × Int)} {cs : List Nat} {s s' s'' : ST} (h : md fs cs s s') (k : md fs cs s' s'') : md fs cs s s'' := fun a b h1 h2 => ⟨(k a b h1 h2).1.trans (h a b h1 h2).1, (k a b h1 h2).2.trans (h a b h1 h2).2⟩
theorem md.mono {fs fs' : List (Nat × Int)} {cs cs' : List Nat} {s s' : ST} (h : md fs cs s s') (h1 : (fs.all fun q => decide (q ∈ fs') || decide (q.1 ∈ cs')) = true) (h2 : (cs.all fun a => decide (a ∈ cs')) = true) : md fs' cs' s s' := by
  intro a b k1 k2
  refine h a b (fun q => ?_) (fun q => k2 ?_)
  · have := List.all_eq_true.mp h1 _ q
    rw [Bool.or_eq_true, decide_eq_true_eq, decide_eq_true_eq] at this
    exact this.elim k1 k2
  · exact of_decide_eq_true (List.all_eq_true.mp h2 _ q)
theorem md.ui {fs : List (Nat × Int)} {cs : List Nat} {s s' : ST} (h : md fs cs s s') {i : Nat} {k v : Int} (hk : (i, k) ∈ fs ∨ i ∈ cs) : md fs cs s (ui s' i k v) := by
  intro a b h1 h2
  refine ⟨?_, (h a b h1 h2).2⟩
  show (if a = i ∧ b = k then v else s'.1 a b) = _
  rw [if_neg]
  · exact (h a b h1 h2).1
  · rintro ⟨rfl, rfl⟩
    exact hk.elim h1 h2
theorem md.uj {fs : List (Nat × Int)} {cs : List Nat} {s s' : ST} (h : md fs cs s s') {i : Nat} {k : Int} {v : Int64} (hk : (i, k) ∈ fs ∨ i ∈ cs) : md fs cs s (uj s' i k v) := by
  intro a b h1 h2
  refine ⟨(h a b h1 h2).1, ?_⟩
  show (if a = i ∧ b = k then v else s'.2 a b) = _
  rw [if_neg]
  · exact (h a b h1 h2).2
  · rintro ⟨rfl, rfl⟩
    exact hk.elim h1 h2
theorem md.f {fs : List (Nat × Int)} {cs : List Nat} {s s' : ST} (h : md fs cs s s') (a : Nat) (b : Int) (h1 : decide ((a, b) ∉ fs) = true) (h2 : decide (a ∉ cs) = true) : s'.1 a b = s.1 a b := (h a b (of_decide_eq_true h1) (of_decide_eq_true h2)).1
theorem md.fj {fs : List (Nat × Int)} {cs : List Nat} {s s' : ST} (h : md fs cs s s') (a : Nat) (b : Int) (h1 : decide ((a, b) ∉ fs) = true) (h2 : decide (a ∉ cs) = true) : s'.2 a b = s.2 a b := (h a b (of_decide_eq_true h1) (of_decide_eq_true h2)).2
theorem md.c {fs : List (Nat × Int)} {cs : List Nat} {s s' : ST} (h : md fs cs s s') (a : Nat) (h1 : (fs.all fun q => decide (q.1 ≠ a)) = true) (h2 : decide (a ∉ cs) = true) (b : Int) : s'.1 a b = s.1 a b :=
  (h a b (fun q => of_decide_eq_true (List.all_eq_true.mp h1 _ q) rfl) (of_decide_eq_true h2)).1
theorem md.cj {fs : List (Nat × Int)} {cs : List Nat} {s s' : ST} (h : md fs cs s s') (a : Nat) (h1 : (fs.all fun q => decide (q.1 ≠ a)) = true) (h2 : decide (a ∉ cs) = true) (b : Int) : s'.2 a b = s.2 a b :=
  (h a b (fun q => of_decide_eq_true (List.all_eq_true.mp h1 _ q) rfl) (of_decide_eq_true h2)).2
theorem iand_le {x y : Int} (h0 : 0 ≤ y) (h1 : y ≤ 2147483647) : 0 ≤ iand x y ∧ iand x y ≤ y := by
  have hy : (BitVec.ofInt 32 y).toNat = y.toNat := by
    rw [BitVec.toNat_ofInt]
    congr 1
    omega
  have ht : ((Int32.ofInt x &&& Int32.ofInt y).toBitVec).toNat ≤ y.toNat := by
    show ((Int32.ofInt x).toBitVec &&& (Int32.ofInt y).toBitVec).toNat ≤ y.toNat
    rw [BitVec.toNat_and, ← hy]
    exact Nat.and_le_right
  have hi : iand x y = (((Int32.ofInt x &&& Int32.ofInt y).toBitVec).toNat : Int) := BitVec.toInt_eq_toNat_of_lt (by omega)
  omega
/-! THE TAPE: feed. -/
def tn1 (s : ST) (p sh : Int) : ST := ui (ui s 1 (s.1 0 1) (i8 (i8 (iushr p sh)))) 0 1 (s.1 0 1 + 1)
def tn (s : ST) (p : Int) : ST := tn1 (tn1 (tn1 (tn1 s p 24) p (24 - 8)) p (24 - 8 - 8)) p (24 - 8 - 8 - 8)
theorem tn1_t {s : ST} {p sh : Int} : (tn1 s p sh).1 0 1 = s.1 0 1 + 1 := ui_same
theorem tn_t {s : ST} {p : Int} : (tn s p).1 0 1 = s.1 0 1 + 4 := by
  unfold tn
  rw [tn1_t, tn1_t, tn1_t, tn1_t]
  omega
theorem tn1_md {s : ST} {p sh : Int} : md [(0, 1)] [1] s (tn1 s p sh) := (md.rf.ui (Or.inr (by decide))).ui (Or.inl (by decide))
theorem tn_md {s : ST} {p : Int} : md [(0, 1)] [1] s (tn s p) := ((tn1_md.tr tn1_md).tr tn1_md).tr tn1_md
theorem k_tape {s : ST} {p sh : Int} {Q : ST → Prop} (hs : 0 ≤ sh ∧ sh ≤ 24) (h0 : 0 ≤ s.1 0 1) (h1 : s.1 0 1 < 1600) (k : K_X10_tapeNumber_3 (tn1 s p sh) p (sh - 8) Q) : K_X10_tapeNumber_3 s p sh Q := by
  refine s_X10_tapeNumber_3 ?_
  repeat' (with_reducible first | refine ⟨?_, ?_⟩ | intro _)
  all_goals first | exact k | omega
theorem c_X10_tapeNumber {s : ST} {p : Int} {Q : ST → Prop} (h0 : 0 ≤ s.1 0 1) (h1 : s.1 0 1 + 4 ≤ 1600) (hQ : Q (tn s p)) : C_X10_tapeNumber s p Q := by
  refine s_X10_tapeNumber fun _ _ => ?_
  refine k_tape (by omega) h0 (by omega) (k_tape (by omega) ?_ ?_ (k_tape (by omega) ?_ ?_ (k_tape (by omega) ?_ ?_ ?_)))
  all_goals first | (simp only [tn1_t]; omega) | skip
  refine s_X10_tapeNumber_3 fun _ _ _ => ⟨fun _ => hQ, fun h => absurd h (by omega)⟩
def fd (s : ST) (p q u w x : Int) : ST := tn (tn (tn (tn (tn s p) q) u) w) x
theorem fd_t {s : ST} {p q u w x : Int} : (fd s p q u w x).1 0 1 = s.1 0 1 + 20 := by
  unfold fd
  rw [tn_t, tn_t, tn_t, tn_t, tn_t]
  omega
theorem fd_md {s : ST} {p q u w x : Int} : md [(0, 1)] [1] s (fd s p q u w x) := (((tn_md.tr tn_md).tr tn_md).tr tn_md).tr tn_md
theorem c_X10_feed {s : ST} {p q u w x : Int} {Q : ST → Int → Prop} (h0 : 0 ≤ s.1 0 1) (h1 : s.1 0 1 ≤ 1600) (hQ1 : s.1 0 1 + 20 ≤ 1600 → Q (fd s p q u w x) (s.1 0 1 + 20)) (hQ2 : 1600 < s.1 0 1 + 20 → Q s (-1)) : C_X10_feed s p q u w x Q := by
  refine s_X10_feed ?_
  repeat' (with_reducible first | refine ⟨?_, ?_⟩ | intro _)
  · omega
  · omega
  · refine c_X10_tapeNumber (by omega) (by omega) (c_X10_tapeNumber ?_ ?_ (c_X10_tapeNumber ?_ ?_ (c_X10_tapeNumber ?_ ?_ (c_X10_tapeNumber ?_ ?_ ?_))))
    all_goals first | (simp only [tn_t]; omega) | skip
    have := hQ1 (by omega)
    rw [← fd_t (p := p) (q := q) (u := u) (w := w) (x := x)] at this
    exact this
  · exact hQ2 (by omega)
/-- the byte that comes at the j-th place -/
def fb (p q u w x j : Int) : Int := i8 (i8 (ishr (if j < 4 then p else if j < 8 then q else if j < 12 then u else if j < 16 then w else x) (24 - 8 * iand j 3)))
theorem k_feed {p q u w x : Int} {Q : ST → Int → Prop} : ∀ (n : Nat) (s : ST) (j : Int), 20 - j = (n : Int) → 0 ≤ j → 0 ≤ s.1 139 2 → s.1 139 2 + 20 ≤ 1600 →
    (∀ s' : ST, md [(139, 2)] [140] s s' → s'.1 139 2 = s.1 139 2 + 20 → (∀ i, j ≤ i → i < 20 → s'.1 140 (s.1 139 2 + i) = fb p q u w x i) → (∀ i, i < s.1 139 2 + j ∨ s.1 139 2 + 20 ≤ i → s'.1 140 i = s.1 140 i) → Q s' (s.1 139 2 + 20)) → K_X11_feed_18 s p q u w x j Q := by
  intro n
  induction n with
  | zero =>
    intro s j hn hj h0 h1 hQ
    refine s_X11_feed_18 ?_
    repeat' (with_reducible first | refine ⟨?_, ?_⟩ | intro _)
    · omega
    · omega
    · exact hQ _ (md.rf.ui (Or.inl (by decide))) ui_same (fun i _ _ => by omega) (fun i _ => ui_cell (by decide))
    all_goals omega
  | succ n ih =>
    intro s j hn hj h0 h1 hQ
    have hb := iand_le (x := j) (y := 3) (by omega) (by omega)
    have key : ∀ v, v = (if j < 4 then p else if j < 8 then q else if j < 12 then u else if j < 16 then w else x) → K_X11_feed_71 s p q u w x j v Q := by
      intro v hv
      refine s_X11_feed_71 ?_
      repeat' (with_reducible first | refine ⟨?_, ?_⟩ | intro _)
      all_goals first | omega | skip
      refine ih _ _ (by omega) (by omega) (by rw [ui_cell (by decide)]; exact h0) (by rw [ui_cell (by decide)]; exact h1) ?_
      intro s' hm ht hbs hk
      rw [ui_cell (by decide)] at ht hbs hk
      refine hQ s' ((md.rf.ui (Or.inr (by decide))).tr hm) ht (fun i h2 h3 => ?_) (fun i h2 => ?_)
      · by_cases e : i = j
        · rw [hk _ (by omega), e, ui_same, hv]; rfl
        · exact hbs i (by omega) h3
      · rw [hk i (by omega), ui_ne (by omega)]
    refine s_X11_feed_18 ?_
    repeat' (with_reducible first | refine ⟨?_, ?_⟩ | intro _)
    all_goals first | omega | skip
    all_goals (refine key _ ?_; repeat' (first | rw [if_pos (by omega)] | rw [if_neg (by omega)]))
theorem c_X11_feed {s : ST} {p q u w x : Int} {Q : ST → Int → Prop} (h0 : 0 ≤ s.1 139 2) (h1 : s.1 139 2 ≤ 1600)
    (hQ1 : s.1 139 2 + 20 ≤ 1600 → ∀ s' : ST, md [(139, 2)] [140] s s' → s'.1 139 2 = s.1 139 2 + 20 → (∀ i, 0 ≤ i → i < 20 → s'.1 140 (s.1 139 2 + i) = fb p q u w x i) → (∀ i, i < s.1 139 2 ∨ s.1 139 2 + 20 ≤ i → s'.1 140 i = s.1 140 i) → Q s' (s.1 139 2 + 20)) (hQ2 : 1600 < s.1 139 2 + 20 → Q s (-1)) : C_X11_feed s p q u w x Q := by
  refine s_X11_feed ?_
  repeat' (with_reducible first | refine ⟨?_, ?_⟩ | intro _)
  · omega
  · omega
  · exact k_feed 20 s 0 (by omega) (by omega) h0 (by omega) (fun s' a b c d => hQ1 (by omega) s' a b c (fun i hi => d i (by omega)))
  · exact hQ2 (by omega)
