/-! THE REFERENCE: a program half read -/
def OPN (s : ST) (m p : Int) : Prop := ∃ i, (0 ≤ i ∧ i < m) ∧ s.1 159 i = p
def nxt (s : ST) (m n i : Int) : Int := if i + 1 < m then s.1 159 (i + 1) else n
def T1p (s : ST) (b n p : Int) : Prop := ((0 ≤ bso s b p ∧ bso s b p ≤ 16) ∧ (p ≤ ben s b p ∧ ben s b p < n) ∧ (ar (bso s b p) = 0 → ben s b p = p) ∧ (1 ≤ ar (bso s b p) → bkd s b p 0 = p + 1 ∧ p + 1 < n) ∧ (ar (bso s b p) = 1 → ben s b p = ben s b (bkd s b p 0)) ∧ (2 ≤ ar (bso s b p) → bkd s b p 1 = ben s b (bkd s b p 0) + 1 ∧ bkd s b p 1 < n) ∧ (ar (bso s b p) = 2 → ben s b p = ben s b (bkd s b p 1)) ∧ (ar (bso s b p) = 3 → (bkd s b p 2 = ben s b (bkd s b p 1) + 1 ∧ bkd s b p 2 < n) ∧ ben s b p = ben s b (bkd s b p 2))) ∧ ∀ k, 0 ≤ k → k < ar (bso s b p) → p < bkd s b p k ∧ bkd s b p k ≤ ben s b (bkd s b p k) ∧ ben s b (bkd s b p k) ≤ ben s b p
def DNp (s : ST) (b p : Int) : Prop := (1 ≤ bas s b p ∧ bas s b p ≤ 1000000) ∧ (bas s b p < 1000000 → bas s b p = 1 + ksum (bso s b) (bas s b) (bkd s b) p + exw (bso s b) (bbi s b) (bdR s b) (bas s b) (bkd s b) p) ∧ (bas s b p = 1000000 → 1000000 ≤ 1 + ksum (bso s b) (bas s b) (bkd s b) p + exw (bso s b) (bbi s b) (bdR s b) (bas s b) (bkd s b) p)
def Ra (s : ST) (b m n R nD nK : Int) : Prop := ((0 ≤ R ∧ R ≤ n) ∧ n ≤ 40) ∧ (0 ≤ nD ∧ nD ≤ 7) ∧ (0 ≤ nK ∧ nK ≤ 20) ∧ (0 ≤ m ∧ m ≤ 21) ∧ (nD = 0 → R = 0) ∧ (0 < nD → bdR s b 0 = 0 ∧ ben s b (bdR s b (nD - 1)) = R - 1) ∧ (∀ d, 0 ≤ d → d < nD → 0 ≤ bdR s b d ∧ bdR s b d < R) ∧ (∀ d, 0 ≤ d → d + 1 < nD → bdR s b (d + 1) = ben s b (bdR s b d) + 1) ∧ bdR s b nD = R ∧ ∀ k, 0 ≤ k → k < nK → 0 ≤ bkC s b k ∧ bkC s b k ≤ 5
def NMC (s : ST) (b m p : Int) : Prop := (bbi s b p < 100 → (0 ≤ bbi s b p ∧ bbi s b p < p ∧ (OPN s m (bbi s b p) ∨ p ≤ ben s b (bbi s b p))) ∧ (bso s b (bbi s b p) = 3 ∨ (bso s b (bbi s b p) = 4 ∧ ben s b (bkd s b (bbi s b p) 0) + 1 ≤ p) ∧ ∀ i, 0 ≤ i → i < m → s.1 159 i = bbi s b p → 1 ≤ s.1 160 i)) ∧ (100 ≤ bbi s b p → bbi s b p - 100 < bdO s b p)
def Rb (s : ST) (b m n R nD nK : Int) : Prop := ∀ p, 0 ≤ p → p < n → (0 ≤ bso s b p ∧ bso s b p ≤ 16) ∧ (bso s b p = 2 → NMC s b m p) ∧ (bso s b p ≠ 2 → bbi s b p = -1) ∧ (p < R → (0 ≤ bdO s b p ∧ bdO s b p < nD) ∧ bdR s b (bdO s b p) ≤ p ∧ p ≤ ben s b (bdR s b (bdO s b p))) ∧ (R ≤ p → bdO s b p = nD) ∧ (bso s b p = 16 → (0 ≤ bkA s b p ∧ 1 ≤ bkL s b p ∧ bkA s b p + bkL s b p ≤ nK) ∧ KW (bkC s b) (bkA s b p) (bkL s b p))
def Rc (s : ST) (b m n : Int) : Prop := ∀ p, 0 ≤ p → p < n → ¬ OPN s m p → T1p s b n p ∧ DNp s b p
def Rd1 (s : ST) (b m n R i : Int) : Prop := ((R ≤ s.1 159 i ∧ s.1 159 i < n) ∧ (0 ≤ s.1 160 i ∧ s.1 160 i ≤ ar (bso s b (s.1 159 i))) ∧ (i + 1 < m → s.1 160 i < ar (bso s b (s.1 159 i)))) ∧ (s.1 160 i = 0 → nxt s m n i = s.1 159 i + 1) ∧ (1 ≤ s.1 160 i → bkd s b (s.1 159 i) 0 = s.1 159 i + 1) ∧ (2 ≤ s.1 160 i → bkd s b (s.1 159 i) 1 = ben s b (bkd s b (s.1 159 i) 0) + 1) ∧ (3 ≤ s.1 160 i → bkd s b (s.1 159 i) 2 = ben s b (bkd s b (s.1 159 i) 1) + 1) ∧ (1 ≤ s.1 160 i → nxt s m n i = ben s b (bkd s b (s.1 159 i) (s.1 160 i - 1)) + 1) ∧ ∀ k, 0 ≤ k → k < s.1 160 i → s.1 159 i < bkd s b (s.1 159 i) k ∧ bkd s b (s.1 159 i) k ≤ ben s b (bkd s b (s.1 159 i) k) ∧ ben s b (bkd s b (s.1 159 i) k) < nxt s m n i
def Rd (s : ST) (b m n R : Int) : Prop := (0 < m → s.1 159 0 = R) ∧ ∀ i, 0 ≤ i → i < m → Rd1 s b m n R i
def Re (s : ST) (b m n : Int) : Prop := ∀ p i, 0 ≤ p → p < n → ¬ OPN s m p → 0 ≤ i → i < m → p < s.1 159 i → ben s b p < s.1 159 i
def RP (s : ST) (b m n R nD nK : Int) : Prop := Ra s b m n R nD nK ∧ Rb s b m n R nD nK ∧ Rc s b m n ∧ Rd s b m n R ∧ Re s b m n
section RDR
variable {s s' : ST} {b m n R nD nK : Int}
theorem Rd.nx (h : Rd s b m n R) {i : Int} (i0 : 0 ≤ i) (i1 : i < m) : s.1 159 i < nxt s m n i := by
  obtain ⟨a1, a2, a3, a4, a5, a6, a7⟩ := h.2 i i0 i1
  by_cases c : s.1 160 i = 0
  · have := a2 c; omega
  · have := a6 (by omega)
    have := a7 (s.1 160 i - 1) (by omega) (by omega)
    omega
theorem Rd.mono (h : Rd s b m n R) : ∀ (k : Nat) (i : Int), 0 ≤ i → i + k + 1 < m → s.1 159 i < s.1 159 (i + k + 1) := by
  intro k
  induction k with
  | zero =>
    intro i i0 i1
    have := h.nx i0 (by omega)
    unfold nxt at this
    rw [if_pos (by omega)] at this
    rw [show i + ((0 : Nat) : Int) + 1 = i + 1 by omega]; exact this
  | succ k ih =>
    intro i i0 i1
    have h1 := ih i i0 (by omega)
    have h2 := h.nx (i := i + k + 1) (by omega) (by omega)
    unfold nxt at h2
    rw [if_pos (by omega)] at h2
    rw [show i + ((k + 1 : Nat) : Int) + 1 = i + k + 1 + 1 by omega]; omega
theorem Rd.lt (h : Rd s b m n R) {i j : Int} (i0 : 0 ≤ i) (hj : i < j) (j1 : j < m) : s.1 159 i < s.1 159 j := by
  have := h.mono (j - i - 1).toNat i i0 (by omega)
  rw [show i + ((j - i - 1).toNat : Int) + 1 = j by omega] at this
  exact this
theorem Rd.inj (h : Rd s b m n R) {i j : Int} (i0 : 0 ≤ i) (i1 : i < m) (j0 : 0 ≤ j) (j1 : j < m) (e : s.1 159 i = s.1 159 j) : i = j := by
  by_cases c : i < j
  · have := h.lt i0 c j1; omega
  · by_cases c2 : j < i
    · have := h.lt j0 c2 i1; omega
    · omega
/-- a kid that is there lies below the next open place -/
theorem Rd.kidlt (h : Rd s b m n R) {i k : Int} (i0 : 0 ≤ i) (i1 : i < m) (k0 : 0 ≤ k) (k1 : k < s.1 160 i) {j : Int} (hj : i < j) (j1 : j < m) : ben s b (bkd s b (s.1 159 i) k) < s.1 159 j := by
  have h7 := (h.2 i i0 i1).2.2.2.2.2.2 k k0 k1
  unfold nxt at h7
  rw [if_pos (by omega)] at h7
  by_cases c : j = i + 1
  · rw [c]; omega
  · have := h.lt (i := i + 1) (j := j) (by omega) (by omega) j1
    omega
theorem Rd.kidn (h : Rd s b m n R) {i k : Int} (i0 : 0 ≤ i) (i1 : i < m) (k0 : 0 ≤ k) (k1 : k < s.1 160 i) : ben s b (bkd s b (s.1 159 i) k) < n := by
  have h7 := (h.2 i i0 i1).2.2.2.2.2.2 k k0 k1
  unfold nxt at h7
  by_cases c : i + 1 < m
  · rw [if_pos c] at h7
    have := (h.2 (i + 1) (by omega) c).1.1
    omega
  · rw [if_neg c] at h7; omega
theorem Rd.kidc (h : Rd s b m n R) {i k : Int} (i0 : 0 ≤ i) (i1 : i < m) (k0 : 0 ≤ k) (k1 : k < s.1 160 i) : ¬ OPN s m (bkd s b (s.1 159 i) k) := by
  rintro ⟨j, ⟨j0, j1⟩, e⟩
  have h7 := (h.2 i i0 i1).2.2.2.2.2.2 k k0 k1
  by_cases c : i < j
  · have := h.kidlt i0 i1 k0 k1 c j1
    omega
  · by_cases c2 : j = i
    · rw [c2] at e; omega
    · have := h.lt j0 (show j < i by omega) i1
      omega
/-- kids of a closed place are closed -/
theorem RP.kidc (h : RP s b m n R nD nK) {p k : Int} (p0 : 0 ≤ p) (p1 : p < n) (hc : ¬ OPN s m p) (k0 : 0 ≤ k) (k1 : k < ar (bso s b p)) : ¬ OPN s m (bkd s b p k) := by
  rintro ⟨j, ⟨j0, j1⟩, e⟩
  have h1 := (h.2.2.1 p p0 p1 hc).1.2 k k0 k1
  have := h.2.2.2.2 p j p0 p1 hc j0 j1 (by omega)
  omega
end RDR
