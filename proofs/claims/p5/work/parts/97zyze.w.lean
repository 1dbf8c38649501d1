/-! READING ALIKE: what the reference counts is what the CLASS lists -/
section TREE
variable {x m : ST} {b n : Int} {nD : Nat}
theorem ksum_KS (hA : ∀ p j, 0 ≤ p → p < n → 0 ≤ j → j < ar (m.1 146 (40 * b + p)) → x.1 27 (3 * p + j) = m.1 152 (3 * (40 * b + p) + j)) {p : Int} (p0 : 0 ≤ p) (p1 : p < n) (hs : x.1 21 p = m.1 146 (40 * b + p)) : KSn x (bas m b) p (ar (x.1 21 p)).toNat = ksum (bso m b) (bas m b) (bkd m b) p := by
  have hk := fun j j0 j1 => hA p j p0 p1 j0 j1
  have har := ar_r (m.1 146 (40 * b + p))
  unfold ksum
  have es : bso m b p = m.1 146 (40 * b + p) := rfl
  rw [es, hs]
  generalize ar (m.1 146 (40 * b + p)) = r at *
  have kd : ∀ j, bkd m b p j = m.1 152 (3 * (40 * b + p) + j) := fun j => rfl
  have : r = 0 ∨ r = 1 ∨ r = 2 ∨ r = 3 := by omega
  rcases this with rfl | rfl | rfl | rfl
  · rw [if_neg (by decide), if_neg (by decide), if_neg (by decide)]; rfl
  · rw [if_pos (by decide), if_neg (by decide), if_neg (by decide), kd, ← hk 0 (by decide) (by decide)]
    show 0 + bas m b (x.1 27 (3 * p + ((0 : Nat) : Int))) = _
    rw [show ((0 : Nat) : Int) = 0 from rfl]; omega
  · rw [if_pos (by decide), if_pos (by decide), if_neg (by decide), kd, kd, ← hk 0 (by decide) (by decide), ← hk 1 (by decide) (by decide)]
    show 0 + bas m b (x.1 27 (3 * p + ((0 : Nat) : Int))) + bas m b (x.1 27 (3 * p + ((1 : Nat) : Int))) = _
    rw [show ((0 : Nat) : Int) = 0 from rfl, show ((1 : Nat) : Int) = 1 from rfl]; omega
  · rw [if_pos (by decide), if_pos (by decide), if_pos (by decide), kd, kd, kd, ← hk 0 (by decide) (by decide), ← hk 1 (by decide) (by decide), ← hk 2 (by decide) (by decide)]
    show 0 + bas m b (x.1 27 (3 * p + ((0 : Nat) : Int))) + bas m b (x.1 27 (3 * p + ((1 : Nat) : Int))) + bas m b (x.1 27 (3 * p + ((2 : Nat) : Int))) = _
    rw [show ((0 : Nat) : Int) = 0 from rfl, show ((1 : Nat) : Int) = 1 from rfl, show ((2 : Nat) : Int) = 2 from rfl]; omega
theorem TRE_of (D : DFM x m b n nD) (h181 : x.1 18 1 = n) (h180 : x.1 18 0 = nD) (hD : nD ≤ 8) (hn : 0 ≤ n ∧ n ≤ 40) : TRE x n (bas m b) ∧ ∀ d : Int, 0 ≤ d → d < nD → 0 ≤ x.1 20 d ∧ x.1 20 d < n := by
  obtain ⟨h1, ⟨h2, h3, h4, h5⟩, h6, W, h8, h9, h10⟩ := D
  obtain ⟨t1, t2, t3, t4, t5, t6, _⟩ := W
  rw [h4] at t1 t2 t3 t4 t5 t6
  rw [h5] at t2 t3
  have hA : ∀ p j, 0 ≤ p → p < n → 0 ≤ j → j < ar (m.1 146 (40 * b + p)) → x.1 27 (3 * p + j) = m.1 152 (3 * (40 * b + p) + j) := fun p j p0 p1 j0 j1 => h10 p j p0 p1 j0 (Or.inl ⟨fun ⟨i, hi, _⟩ => by omega, j1⟩)
  have hroot : ∀ d : Int, 0 ≤ d → d < nD → 0 ≤ x.1 20 d ∧ x.1 20 d < n := fun d d0 d1 => by
    rw [(h9 d d0 d1).2]; exact t2.2.2.2.2.1 d d0 d1
  have hmb : ∀ p, 0 ≤ p → p < n → x.1 21 p = 2 → (MBx x p = -1 ∧ rt (bso m b) (bbi m b) (bdR m b) (bkd m b) p = -1) ∨ ((0 ≤ MBx x p ∧ MBx x p < n) ∧ rt (bso m b) (bbi m b) (bdR m b) (bkd m b) p = MBx x p) := by
    intro p p0 p1 h2p
    obtain ⟨s1, _, s3, _⟩ := h8 p p0 p1
    have htg := s3 h2p
    have hso : bso m b p = 2 := s1.symm.trans h2p
    obtain ⟨u1, u2⟩ := (t4 p p0 p1).1 hso
    have ebi : bbi m b p = m.1 153 (40 * b + p) := rfl
    unfold MBx F_X9_meantBy
    have etg : F_X9_targetOf 18 x p = x.1 29 p := by unfold F_X9_targetOf; rw [h181, if_pos (by omega)]
    rw [etg]
    unfold rt
    rcases htg with ⟨g1, g2⟩ | ⟨g1, g2⟩
    · obtain ⟨⟨v1, v2, v3⟩, v4⟩ := u1 (by omega)
      rw [ebi, g2] at v1 v2 v3 v4
      have esort : F_X9_sortOf 18 x (x.1 29 p) = bso m b (x.1 29 p) := by
        unfold F_X9_sortOf; rw [h181, if_pos (by omega)]; exact (h8 _ v1 (by omega)).1
      rw [if_pos g1, esort, ebi, g2, if_pos (show x.1 29 p < 100 by omega)]
      by_cases c4 : bso m b (x.1 29 p) = 4
      · rw [if_pos c4, if_pos c4]
        have tt := t1 (x.1 29 p) v1 (by omega)
        have a4 : ar (bso m b (x.1 29 p)) = 2 := by rw [c4]; decide
        have hk := tt.2.2.2.1 (by omega)
        have ekid : F_X9_kidOf 18 x (x.1 29 p) 0 = bkd m b (x.1 29 p) 0 := by
          unfold F_X9_kidOf
          rw [h181, if_pos (by omega), if_neg (by decide), if_neg (by decide)]
          exact hA _ 0 v1 (by omega) (by decide) (by show 0 < ar (bso m b (x.1 29 p)); omega)
        rw [ekid]
        right; exact ⟨by omega, rfl⟩
      · rw [if_neg c4, if_neg c4]
        exact Or.inl ⟨rfl, rfl⟩
    · have v := u2 (by omega)
      have hdO := (t3 p p0 p1).1
      have hd : 0 ≤ x.1 29 p - 40 ∧ x.1 29 p - 40 < nD := by rw [ebi, g2] at v; omega
      have er : F_X9_rootOf 18 x (x.1 29 p - 40) = x.1 20 (x.1 29 p - 40) := by
        unfold F_X9_rootOf; rw [h180, if_neg (by omega), if_neg (by omega), if_neg (by omega)]
      rw [if_neg (by omega), w32_id (by unfold R32; omega), er, ebi, g2, if_neg (by omega)]
      right
      refine ⟨hroot _ hd.1 hd.2, ?_⟩
      rw [(h9 _ hd.1 hd.2).2]
      show m.1 145 (8 * b + (x.1 29 p + 60 - 100)) = _
      rw [show x.1 29 p + 60 - 100 = x.1 29 p - 40 by omega]
  refine ⟨⟨⟨h181, hn⟩, fun p p0 p1 => ?_⟩, hroot⟩
  obtain ⟨s1, _, s3, s4⟩ := h8 p p0 p1
  have tt := t1 p p0 p1
  have es : bso m b p = x.1 21 p := s1.symm
  obtain ⟨w1, w2, w3⟩ := t6 p p0 p1
  have eks := ksum_KS hA p0 p1 s1
  have ex : XWm x (bas m b) p = exw (bso m b) (bbi m b) (bdR m b) (bas m b) (bkd m b) p := by
    unfold XWm exw
    rw [es]
    by_cases c2 : x.1 21 p = 2
    · rw [if_pos c2, if_pos c2]
      rcases hmb p p0 p1 c2 with ⟨q1, q2⟩ | ⟨q1, q2⟩
      · rw [if_pos q1, q2, if_pos (by decide)]
      · rw [if_neg (by omega), q2, if_neg (by omega)]
    · rw [if_neg c2, if_neg c2]
  rw [es] at tt
  refine ⟨tt.1, w1, fun h => by rw [eks, ex]; exact w2 h, fun h => by rw [eks, ex]; exact w3 h, fun j j0 j1 => ?_, fun c2 => ?_⟩
  · have har := ar_r (x.1 21 p)
    have hk := hA p j p0 p1 j0 (by rw [← s1]; exact j1)
    have ekd : bkd m b p j = x.1 27 (3 * p + j) := hk.symm
    have enr : ∀ q, 0 ≤ q → q < n → q ≤ ben m b q ∧ ben m b q < n := fun q q0 q1 => (t1 q q0 q1).2.1
    have k0 := tt.2.2.2.1
    have k1 := tt.2.2.2.2.2.1
    have k3 := tt.2.2.2.2.2.2.2
    rw [← ekd]
    have k0' := k0 (by omega)
    have e0 := enr (bkd m b p 0) (by omega) (by omega)
    by_cases cj0 : j = 0
    · rw [cj0]; omega
    · have k1' := k1 (by omega)
      have e1 := enr (bkd m b p 1) (by omega) (by omega)
      by_cases cj1 : j = 1
      · rw [cj1]; omega
      · have k3' := k3 (by omega)
        have : j = 2 := by omega
        rw [this]; omega
  · rcases hmb p p0 p1 c2 with ⟨q1, _⟩ | ⟨q1, _⟩
    · exact Or.inl q1
    · exact Or.inr q1
theorem TOT_sm (D : DFR x m b nD) : ∀ d : Nat, d ≤ nD → TOTx x (bas m b) d = sm (fun d => m.1 151 (40 * b + m.1 145 (8 * b + d))) 0 d := by
  intro d
  induction d with
  | zero => intro _; rfl
  | succ d ih =>
    intro hd
    have e := (D (d : Int) (by omega) (by omega)).2
    show TOTx x (bas m b) d + bas m b (x.1 20 (d : Int)) = sm (fun d => m.1 151 (40 * b + m.1 145 (8 * b + d))) 0 d + m.1 151 (40 * b + m.1 145 (8 * b + (0 + (d : Int))))
    rw [ih (by omega), e, show (0 : Int) + (d : Int) = d by omega]
    rfl
end TREE
