/-! READING ALIKE: words in both codes -/
def cv (w : Nat) : Nat := if h : w = 0 then 0 else 256 * cv (w / 32) + (w % 32 + 96)
  termination_by w
  decreasing_by omega
theorem cv_zero : cv 0 = 0 := by unfold cv; rfl
theorem cv_pos {w : Nat} (h : w ≠ 0) : cv w = 256 * cv (w / 32) + (w % 32 + 96) := by
  conv => lhs; unfold cv
  rw [dif_neg h]
theorem cv_inj : ∀ (n a b : Nat), a ≤ n → cv a = cv b → a = b := by
  intro n
  induction n with
  | zero =>
    intro a b ha h
    obtain rfl : a = 0 := by omega
    by_cases hb : b = 0
    · exact hb.symm
    · rw [cv_zero, cv_pos hb] at h; omega
  | succ n ih =>
    intro a b ha h
    by_cases ha0 : a = 0
    · subst ha0
      by_cases hb : b = 0
      · exact hb.symm
      · rw [cv_zero, cv_pos hb] at h; omega
    · by_cases hb : b = 0
      · subst hb
        rw [cv_zero, cv_pos ha0] at h; omega
      · rw [cv_pos ha0, cv_pos hb] at h
        have := ih (a / 32) (b / 32) (by omega) (by omega)
        omega
theorem cv_step {w d : Nat} (h0 : 1 ≤ d) (h1 : d ≤ 26) : cv (32 * w + d) = 256 * cv w + (d + 96) := by
  rw [cv_pos (by omega), show (32 * w + d) / 32 = w by omega, show (32 * w + d) % 32 = d by omega]
theorem cv_lt : ∀ (k w : Nat), w < 32 ^ k → cv w < 256 ^ k := by
  intro k
  induction k with
  | zero => intro w h; obtain rfl : w = 0 := by omega
            rw [cv_zero]; decide
  | succ k ih =>
    intro w h
    by_cases h0 : w = 0
    · subst h0; rw [cv_zero]; exact Nat.pow_pos (by decide)
    · rw [cv_pos h0]
      have := ih (w / 32) (by rw [Nat.pow_succ] at h; omega)
      rw [Nat.pow_succ]; omega
theorem cv_max {w : Nat} (h : w < 1099511627776) : cv w < 18446744073709551616 := cv_lt 8 w h
theorem ofNat_inj {a b : Nat} (ha : a < 18446744073709551616) (hb : b < 18446744073709551616) (h : Int64.ofNat a = Int64.ofNat b) : a = b := by
  have : (Int64.ofNat a).toBitVec.toNat = (Int64.ofNat b).toBitVec.toNat := by rw [h]
  simp only [Int64.toBitVec_ofNat', BitVec.toNat_ofNat] at this
  omega
def WR (a b : Int64) : Prop := ∃ w : Nat, w < 1099511627776 ∧ a = Int64.ofNat w ∧ b = Int64.ofNat (cv w)
theorem WR.eq {a b c d : Int64} (h : WR a b) (k : WR c d) : a = c ↔ b = d := by
  obtain ⟨w, hw, rfl, rfl⟩ := h
  obtain ⟨v, hv, rfl, rfl⟩ := k
  constructor
  · intro e
    have := ofNat_inj (by omega) (by omega) e
    rw [this]
  · intro e
    have := ofNat_inj (cv_max hw) (cv_max hv) e
    rw [cv_inj _ _ _ (Nat.le_refl _) this]
theorem w32_step (w d : Nat) : (32 : Int64) * Int64.ofNat w + Int64.ofInt (d : Int) = Int64.ofNat (32 * w + d) := by
  rw [Int64.ofNat_add, Int64.ofNat_mul]; rfl
theorem w256_step (w d : Nat) (hd : d < 256) : lshl (Int64.ofNat w) 8 ||| Int64.ofInt (d : Int) = Int64.ofNat (256 * w + d) := by
  have e : lshl (Int64.ofNat w) 8 = Int64.ofNat w <<< 8 := rfl
  rw [e]
  refine Int64.toBitVec_inj.mp ?_
  rw [Int64.toBitVec_or]
  have e1 : (Int64.ofNat w <<< 8).toBitVec = (BitVec.ofNat 64 w) <<< 8 := by
    rw [Int64.toBitVec_shiftLeft]; rfl
  have e2 : (Int64.ofInt (d : Int)).toBitVec = BitVec.ofNat 64 d := by
    show BitVec.ofInt 64 (d : Int) = _
    rw [BitVec.ofInt_natCast]
  have e3 : (Int64.ofNat (256 * w + d)).toBitVec = BitVec.ofNat 64 (256 * w) + BitVec.ofNat 64 d := by
    rw [Int64.ofNat_add, Int64.toBitVec_add]; rfl
  have e4 : (BitVec.ofNat 64 w) <<< 8 = BitVec.ofNat 64 (256 * w) := by
    refine BitVec.eq_of_toNat_eq ?_
    rw [BitVec.toNat_shiftLeft, BitVec.toNat_ofNat, BitVec.toNat_ofNat, Nat.shiftLeft_eq]
    omega
  rw [e1, e2, e3, e4]
  symm
  refine BitVec.add_eq_or_of_and_eq_zero _ _ ?_
  rw [← e4]
  refine BitVec.eq_of_getLsbD_eq fun i hi => ?_
  rw [BitVec.getLsbD_and, BitVec.getLsbD_shiftLeft, BitVec.getLsbD_ofNat, BitVec.getLsbD_zero]
  by_cases h8 : i < 8
  · simp [h8]
  · have : d.testBit i = false := Nat.testBit_lt_two_pow (Nat.lt_of_lt_of_le hd (show 2 ^ 8 ≤ 2 ^ i from Nat.pow_le_pow_right (by decide) (by omega)))
    rw [BitVec.getLsbD_ofNat, this]; simp
