/-! THE CLASS: tape, time, trust, rights, images -/
section X10T
variable {s : ST}
theorem i8_u (p sh : Int) (h : sh = 0 ∨ sh = 8 ∨ sh = 16 ∨ sh = 24) : i8 (iushr p sh) = i8 (ishr p sh) := by
  unfold i8 iushr ishr
  rw [Int32.ofInt_toInt, Int32.ofInt_toInt]
  congr 2
  generalize Int32.ofInt p = a
  refine Int8.toBitVec_inj.mp ?_
  have key : ∀ k : Nat, k ≤ 24 → (a.toBitVec >>> k).signExtend 8 = (a.toBitVec.sshiftRight k).signExtend 8 := by
    intro k hk
    refine BitVec.eq_of_getLsbD_eq fun i hi => ?_
    rw [BitVec.getLsbD_signExtend, BitVec.getLsbD_signExtend, BitVec.getLsbD_sshiftRight, BitVec.getLsbD_ushiftRight]
    simp [show i < 32 by omega, show k + i < 32 by omega, show ¬ 32 ≤ i by omega]
  rcases h with rfl | rfl | rfl | rfl
  · exact key 0 (by decide)
  · exact key 8 (by decide)
  · exact key 16 (by decide)
  · exact key 24 (by decide)
theorem iand_i8 (v : Int) : iand (i8 v) 255 = iand v 255 := by
  unfold iand i8
  rw [Int32.ofInt_toInt]
  congr 1
  generalize Int32.ofInt v = a
  refine Int32.toBitVec_inj.mp ?_
  rw [Int32.toBitVec_and, Int32.toBitVec_and]
  have e : a.toInt8.toInt32.toBitVec = (a.toBitVec.signExtend 8).signExtend 32 := rfl
  rw [e]
  refine BitVec.eq_of_getLsbD_eq fun i hi => ?_
  rw [BitVec.getLsbD_and, BitVec.getLsbD_and, BitVec.getLsbD_signExtend, BitVec.getLsbD_signExtend]
  by_cases h8 : i < 8
  · simp [h8, hi]
  · have : (Int32.ofInt 255).toBitVec.getLsbD i = false := by
      have : ∀ j : Fin 32, ¬ j.val < 8 → (Int32.ofInt 255).toBitVec.getLsbD j.val = false := by decide
      exact this ⟨i, hi⟩ h8
    rw [this]; simp
def TP (s s' : ST) (n : Int) : Prop := md [(0, 1)] [1] s s' ∧ s'.1 0 1 = s.1 0 1 + n
theorem kx_tape {p : Int} {Q : ST → Prop} : ∀ (j : Nat) (s s1 : ST) (m : Int), j ≤ 4 → TP s s1 m → 0 ≤ s1.1 0 1 → s1.1 0 1 + j ≤ 1600 → (∀ s', TP s s' (m + j) → Q s') → K_X10_tapeNumber_3 s1 p (8 * j - 8) Q := by
  intro j
  induction j with
  | zero =>
    intro s s1 m hj t h0 h1 hQ
    refine s_X10_tapeNumber_3 ?_
    (repeat' (with_reducible first | refine ⟨?_, ?_⟩ | intro _))
    all_goals first | omega | exact hQ _ (by rw [show m + ((0 : Nat) : Int) = m by omega]; exact t)
  | succ j ih =>
    intro s s1 m hj t h0 h1 hQ
    refine s_X10_tapeNumber_3 ?_
    (repeat' (with_reducible first | refine ⟨?_, ?_⟩ | intro _))
    all_goals first | omega | skip
    have e1 : (ui (ui s1 1 (s1.1 0 1) (i8 (i8 (iushr p (8 * ((j + 1 : Nat) : Int) - 8))))) 0 1 (s1.1 0 1 + 1)).1 0 1 = s1.1 0 1 + 1 := ui_same
    have mm : md [(0, 1)] [1] s1 (ui (ui s1 1 (s1.1 0 1) (i8 (i8 (iushr p (8 * ((j + 1 : Nat) : Int) - 8))))) 0 1 (s1.1 0 1 + 1)) := (by repeat' (first | exact md.rf | assumption | refine md.ui ?_ ?_ | refine md.uj ?_ ?_ | exact Or.inr (by decide) | exact Or.inl (by decide)))
    generalize ui (ui s1 1 (s1.1 0 1) (i8 (i8 (iushr p (8 * ((j + 1 : Nat) : Int) - 8))))) 0 1 (s1.1 0 1 + 1) = s2 at *
    rw [show 8 * ((j + 1 : Nat) : Int) - 8 - 8 = 8 * (j : Int) - 8 by omega]
    have t2 := t.2
    refine ih s s2 (m + 1) (by omega) ⟨t.1.tr mm, by omega⟩ (by omega) (by omega) fun s' t' => hQ s' ?_
    rw [show m + ((j + 1 : Nat) : Int) = m + 1 + (j : Int) by omega]; exact t'
theorem x_X10_tapeNumber {s0 : ST} {m p : Int} {Q : ST → Prop} (t : TP s0 s m) (h0 : 0 ≤ s.1 0 1) (h1 : s.1 0 1 + 4 ≤ 1600) (hQ : ∀ s', TP s0 s' (m + 4) → Q s') : C_X10_tapeNumber s p Q := by
  refine s_X10_tapeNumber ?_
  (repeat' (with_reducible first | refine ⟨?_, ?_⟩ | intro _))
  exact kx_tape 4 s0 s m (by omega) t h0 (by omega) hQ
theorem IX.tape {s s' : ST} (h : IX s) (mm : md [(0, 1)] [1] s s') (t : 0 ≤ s'.1 0 1 ∧ s'.1 0 1 ≤ 1600) : IX s' ∧ s'.1 0 2 = s.1 0 2 := by
  have e2 := mm.f 0 2 (by decide) (by decide)
  refine ⟨cx_tape h (fun c hc => funext fun x => (mm c x (fun q => ?_) (fun q => ?_)).1) t (by rw [e2]; exact h.2.2.2.2.1), e2⟩
  · simp only [List.mem_cons, Prod.mk.injEq, List.not_mem_nil, or_false] at q; omega
  · simp only [List.mem_cons, List.not_mem_nil, or_false] at q; omega
theorem bbt {p sh : Int} (h : sh = 0 ∨ sh = 8 ∨ sh = 16 ∨ sh = 24) : i8 (i8 (iushr p sh)) = i8 (i8 (ishr p sh)) := by rw [i8_u p sh h]
theorem tn1_b {s : ST} {p sh : Int} (i : Int) : (tn1 s p sh).1 1 i = if i = s.1 0 1 then i8 (i8 (iushr p sh)) else s.1 1 i := by
  unfold tn1
  rw [ui_cell (by decide)]
  by_cases e : i = s.1 0 1
  · rw [if_pos e, e, ui_same]
  · rw [if_neg e, ui_ne e]
theorem tn_b {s : ST} {p : Int} (i : Int) : (tn s p).1 1 i = if s.1 0 1 ≤ i ∧ i < s.1 0 1 + 4 then i8 (i8 (ishr p (24 - 8 * (i - s.1 0 1)))) else s.1 1 i := by
  unfold tn
  rw [tn1_b, tn1_b, tn1_b, tn1_b, tn1_t, tn1_t, tn1_t]
  by_cases e3 : i = s.1 0 1 + 1 + 1 + 1
  · rw [if_pos e3, if_pos (by omega), e3, show 24 - 8 * (s.1 0 1 + 1 + 1 + 1 - s.1 0 1) = 0 by omega]
    exact bbt (by omega)
  · rw [if_neg e3]
    by_cases e2 : i = s.1 0 1 + 1 + 1
    · rw [if_pos e2, if_pos (by omega), e2, show 24 - 8 * (s.1 0 1 + 1 + 1 - s.1 0 1) = 8 by omega]
      exact bbt (by omega)
    · rw [if_neg e2]
      by_cases e1 : i = s.1 0 1 + 1
      · rw [if_pos e1, if_pos (by omega), e1, show 24 - 8 * (s.1 0 1 + 1 - s.1 0 1) = 16 by omega]
        exact bbt (by omega)
      · rw [if_neg e1]
        by_cases e0 : i = s.1 0 1
        · rw [if_pos e0, if_pos (by omega), e0, show 24 - 8 * (s.1 0 1 - s.1 0 1) = 24 by omega]
          exact bbt (by omega)
        · rw [if_neg e0, if_neg (by omega)]
theorem iand3 {j : Int} (h0 : 0 ≤ j) (h1 : j < 20) : iand j 3 = j % 4 := by
  have : ∀ k : Fin 20, iand (k.val : Int) 3 = (k.val : Int) % 4 := by decide +kernel
  have := this ⟨j.toNat, by omega⟩
  rw [show ((j.toNat : Nat) : Int) = j by omega] at this
  exact this
theorem fd_b {s : ST} {p q u w x : Int} (i : Int) : (fd s p q u w x).1 1 i = if s.1 0 1 ≤ i ∧ i < s.1 0 1 + 20 then fb p q u w x (i - s.1 0 1) else s.1 1 i := by
  unfold fd
  rw [tn_b, tn_b, tn_b, tn_b, tn_b, tn_t, tn_t, tn_t, tn_t]
  by_cases c : s.1 0 1 ≤ i ∧ i < s.1 0 1 + 20
  · rw [if_pos c]
    unfold fb
    rw [iand3 (by omega) (by omega)]
    by_cases c4 : s.1 0 1 + 4 + 4 + 4 + 4 ≤ i
    · rw [if_pos (by omega), if_neg (by omega), if_neg (by omega), if_neg (by omega), if_neg (by omega), show 24 - 8 * (i - (s.1 0 1 + 4 + 4 + 4 + 4)) = 24 - 8 * ((i - s.1 0 1) % 4) by omega]
    · rw [if_neg (by omega)]
      by_cases c3 : s.1 0 1 + 4 + 4 + 4 ≤ i
      · rw [if_pos (by omega), if_neg (by omega), if_neg (by omega), if_neg (by omega), if_pos (by omega), show 24 - 8 * (i - (s.1 0 1 + 4 + 4 + 4)) = 24 - 8 * ((i - s.1 0 1) % 4) by omega]
      · rw [if_neg (by omega)]
        by_cases c2 : s.1 0 1 + 4 + 4 ≤ i
        · rw [if_pos (by omega), if_neg (by omega), if_neg (by omega), if_pos (by omega), show 24 - 8 * (i - (s.1 0 1 + 4 + 4)) = 24 - 8 * ((i - s.1 0 1) % 4) by omega]
        · rw [if_neg (by omega)]
          by_cases c1 : s.1 0 1 + 4 ≤ i
          · rw [if_pos (by omega), if_neg (by omega), if_pos (by omega), show 24 - 8 * (i - (s.1 0 1 + 4)) = 24 - 8 * ((i - s.1 0 1) % 4) by omega]
          · rw [if_neg (by omega), if_pos (by omega), if_pos (by omega), show 24 - 8 * (i - s.1 0 1) = 24 - 8 * ((i - s.1 0 1) % 4) by omega]
  · rw [if_neg c, if_neg (by omega), if_neg (by omega), if_neg (by omega), if_neg (by omega), if_neg (by omega)]
def SM (s s' : ST) : Prop := s'.1 46 = s.1 46 ∧ s'.2 47 = s.2 47
theorem SM.md {s s' : ST} (m : md [(0, 1)] [1] s s') : SM s s' := ⟨funext (m.c 46 (by decide) (by decide)), funext (m.cj 47 (by decide) (by decide))⟩
theorem i_X10_feed {p q u w x : Int} {Q : ST → Int → Prop} (h : IX s) (hQ1 : s.1 0 1 + 20 ≤ 1600 → ∀ s', IX s' → s'.1 0 2 = s.1 0 2 → s'.1 0 1 = s.1 0 1 + 20 → (∀ i, 0 ≤ i → i < 20 → s'.1 1 (s.1 0 1 + i) = fb p q u w x i) → (∀ i, i < s.1 0 1 ∨ s.1 0 1 + 20 ≤ i → s'.1 1 i = s.1 1 i) → SM s s' → Q s' (s.1 0 1 + 20)) (hQ2 : 1600 < s.1 0 1 + 20 → Q s (-1)) : C_X10_feed s p q u w x Q := by
  have h1 := h.2.2.2.1
  refine c_X10_feed h1.1 h1.2 (fun hle => ?_) hQ2
  have ht := fd_t (s := s) (p := p) (q := q) (u := u) (w := w) (x := x)
  have hb := fd_b (s := s) (p := p) (q := q) (u := u) (w := w) (x := x)
  have hm := fd_md (s := s) (p := p) (q := q) (u := u) (w := w) (x := x)
  generalize fd s p q u w x = s1 at *
  have hh := h.tape hm (by omega)
  refine hQ1 hle s1 hh.1 hh.2 ht (fun i i0 i1 => ?_) (fun i hi => ?_) (SM.md hm)
  · rw [hb, if_pos (by omega), show s.1 0 1 + i - s.1 0 1 = i by omega]
  · rw [hb, if_neg (by omega)]
theorem i_X10_end {p : Int} {Q : ST → Int → Prop} (h : IX s) (hQ : ∀ s' v, IX s' → s'.1 0 2 = s.1 0 2 → (s'.1 1 = s.1 1 ∧ SM s s') → (s'.1 0 1 = s.1 0 1 ∧ v = -1 ∧ (p < 0 ∨ s.1 0 1 < p) ∨ s'.1 0 1 = p ∧ v = p ∧ 0 ≤ p ∧ p ≤ s.1 0 1) → Q s' v) : C_X10_end s p Q := by
  have h1 := h.2.2.2.1
  refine s_X10_end ?_
  (repeat' (with_reducible first | refine ⟨?_, ?_⟩ | intro _))
  · exact hQ _ _ h rfl ⟨rfl, rfl, rfl⟩ (Or.inl ⟨rfl, rfl, by omega⟩)
  · have mm : md [(0, 1)] [1] s (ui s 0 1 p) := (by repeat' (first | exact md.rf | assumption | refine md.ui ?_ ?_ | refine md.uj ?_ ?_ | exact Or.inr (by decide) | exact Or.inl (by decide)))
    have e2 : (ui s 0 1 p).1 0 1 = p := ui_same
    have := h.tape mm (by omega)
    exact hQ _ _ this.1 this.2 ⟨funext fun x => ui_cell (by decide), SM.md mm⟩ (Or.inr ⟨e2, rfl, by omega, by omega⟩)
  · exact hQ _ _ h rfl ⟨rfl, rfl, rfl⟩ (Or.inl ⟨rfl, rfl, by omega⟩)
theorem i_X10_later {p : Int} {Q : ST → Int → Prop} (h : IX s) (hQ : ∀ s' v, IX s' → s'.1 0 1 = s.1 0 1 → (s'.1 1 = s.1 1 ∧ SM s s') → (s'.1 0 2 = s.1 0 2 ∧ v = -1 ∧ (p < 0 ∨ 1000 < p ∨ 100000 < s.1 0 2 + p) ∨ s'.1 0 2 = s.1 0 2 + p ∧ v = s.1 0 2 + p ∧ (0 ≤ p ∧ p ≤ 1000 ∧ s.1 0 2 + p ≤ 100000)) → Q s' v) : C_X10_later s p Q := by
  have h1 := h.2.2.2.1
  have h2 := h.2.2.2.2.1
  refine s_X10_later ?_
  (repeat' (with_reducible first | refine ⟨?_, ?_⟩ | intro _))
  all_goals first | omega | exact hQ _ _ h rfl ⟨rfl, rfl, rfl⟩ (Or.inl ⟨rfl, rfl, by omega⟩) | skip
  have e1 : (ui s 0 2 (s.1 0 2 + p)).1 0 1 = s.1 0 1 := ui_ne (by decide)
  have e2 : (ui s 0 2 (s.1 0 2 + p)).1 0 2 = s.1 0 2 + p := ui_same
  exact hQ _ _ (cx_tape h (fun c hc => funext fun x => ui_cell (by omega)) (by rw [e1]; exact h1) (by rw [e2]; omega)) e1 ⟨funext fun x => ui_cell (by decide), funext fun x => ui_cell (by decide), rfl⟩ (Or.inr ⟨e2, rfl, by omega⟩)
theorem i_X10_trust {p q : Int} {Q : ST → Int → Prop} (h : IX s) (hQ : ∀ s' v, KX s s' → Q s' v) : C_X10_trust s p q Q := by
  refine s_X10_trust ?_
  (repeat' (with_reducible first | refine ⟨?_, ?_⟩ | intro _))
  all_goals first | omega | exact hQ _ _ (.rf h) | skip
  all_goals exact hQ _ _ (KX_put (KX_put (KX.ui (.rf h) (by unfold freeC; omega)) (by omega) (fun e => by omega) (fun e => by omega)) (by omega) (fun e => by omega) (fun e => by omega))
theorem i_X10_right {p : Int} {Q : ST → Int → Prop} (h : IX s) (hQ : ∀ s' v, KX s s' → Q s' v) : C_X10_right s p Q := by
  refine s_X10_right ?_
  (repeat' (with_reducible first | refine ⟨?_, ?_⟩ | intro _))
  all_goals first | exact hQ _ _ (.rf h) | exact x_X8_tell (.rf h) fun s2 v k2 => hQ _ _ k2
theorem i_X10_untell {p : Int} {Q : ST → Int → Prop} (h : IX s) (hQ : ∀ s' v, KX s s' → Q s' v) : C_X10_untell s p Q := by
  refine s_X10_untell ?_
  (repeat' (with_reducible first | refine ⟨?_, ?_⟩ | intro _))
  exact x_X8_takeBack (.rf h) fun s2 v k2 _ => hQ _ _ k2
theorem i_X10_image {p : Int} {Q : ST → Int → Prop} (h : IX s) (hQ : ∀ s' v, KX s s' → Q s' v) : C_X10_image s p Q := by
  refine s_X10_image ?_
  (repeat' (with_reducible first | refine ⟨?_, ?_⟩ | intro _))
  all_goals first | omega | exact hQ _ _ (.rf h) | skip
  exact x_X9_copyFrom (boxT_ok ⟨by omega, by omega⟩) h fun s2 k2 => hQ _ _ (KX_put k2 (by omega) (fun e => by omega) (fun e => by omega))
theorem i_X10_back {p : Int} {Q : ST → Int → Prop} (h : IX s) (hQ : ∀ s' v, KX s s' → Q s' v) : C_X10_back s p Q := by
  refine s_X10_back ?_
  (repeat' (with_reducible first | refine ⟨?_, ?_⟩ | intro _))
  all_goals first | omega | exact hQ _ _ (.rf h) | exact x_X10_goOnWith (.rf h) fun s2 v k2 => hQ _ _ k2
theorem i_X10_about {p : Int} {Q : ST → Int → Prop} (hQ : ∀ v, Q s v) : C_X10_about s p Q := by
  refine s_X10_about ?_
  (repeat' (with_reducible first | refine ⟨?_, ?_⟩ | intro _))
  all_goals first | exact hQ _ | exact x_X9_trustOfAll hQ
theorem i_X10_fault {p : Int} {Q : ST → Int → Prop} (hQ : ∀ v, Q s v) : C_X10_fault s p Q := by
  refine (w_X10_fault (s := s) (p := p)).mono ?_
  rintro s' v ⟨e, _⟩
  rw [e]; exact hQ v
theorem i_X10_place {p q : Int} {Q : ST → Int → Prop} (hQ : ∀ v, Q s v) : C_X10_place s p q Q := by
  refine (w_X10_place (s := s) (p := p) (q := q) (fun _ => ⟨fun _ => by omega, fun _ => by omega, fun _ => by omega, fun _ => by omega⟩)).mono ?_
  rintro s' v ⟨e, _⟩
  rw [e]; exact hQ v
end X10T
