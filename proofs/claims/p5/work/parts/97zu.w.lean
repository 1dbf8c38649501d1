/-! TWO NEW OBJECTS: both invariants hold -/
def nw : ST := (fun a b => (zI6 a b.toNat).toInt, fun a b => zJ1 a b.toNat)
theorem nw_qsg (la : List (Nat × Nat)) (I : Nat → Nat → Int32) (J : Nat → Nat → Int64) : qs la (fun a b => (I a b.toNat).toInt, fun a b => J a b.toNat) = (I, J, q_R0, la) := by
  refine Prod.ext ?_ (Prod.ext ?_ rfl)
  · funext i k
    show Int32.ofInt ((I i ((k : Int)).toNat).toInt) = I i k
    rw [Int.toNat_natCast, Int32.ofInt_toInt]
  · funext i k
    show J i ((k : Int)).toNat = J i k
    rw [Int.toNat_natCast]
theorem nw_qs (la : List (Nat × Nat)) : qs la nw = (zI6, zJ1, q_R0, la) := nw_qsg la zI6 zJ1
theorem nw_ra : RA nw := fun _ _ => zr _
theorem nw_jn : jn nw nw = nw := by
  refine Prod.ext ?_ ?_
  · funext a b; show (if 139 ≤ a then nw.1 a b else nw.1 a b) = nw.1 a b; split <;> rfl
  · funext a b; show (if 139 ≤ a then nw.2 a b else nw.2 a b) = nw.2 a b; split <;> rfl
theorem zI6_low {c k : Nat} (h : c < 139) (h1 : c ≠ 46) (h2 : c ≠ 80) : zI6 c k = 0 := by
  unfold zI6 zI5 zI4 zI3 zI2 zI1 zI0
  simp (disch := omega) only [q_up_cell]
theorem nw_low {c : Nat} {k : Int} (h : c < 139) (h1 : c ≠ 46) (h2 : c ≠ 80) : nw.1 c k = 0 := by
  show (zI6 c k.toNat).toInt = 0
  rw [zI6_low h h1 h2]; rfl
theorem nw_AK {a : Nat} (ha : isA a) : AK nw a := by
  have e : ∀ c k, c = a ∨ c = a + 3 ∨ c = a + 4 → nw.1 c k = 0 := fun c k hc => nw_low (by omega) (by omega) (by omega)
  refine ⟨⟨by rw [e a 0 (by omega)]; omega, Or.inl (e a 3 (by omega))⟩, fun i _ _ => ?_⟩
  rw [e (a + 3) i (by omega), e (a + 4) i (by omega)]
  omega
theorem nw_IX : IX nw := by
  have e : ∀ c k, c < 40 → nw.1 c k = 0 := fun c k hc => nw_low (by omega) (by omega) (by omega)
  have e2 : ∀ c k, 90 ≤ c → c < 139 → nw.1 c k = 0 := fun c k hc h => nw_low (by omega) (by omega) (by omega)
  refine ⟨⟨?_, fun i h0 h1 => ?_⟩, nw_AK (Or.inl rfl), nw_AK (Or.inr rfl), ?_, ?_, ?_, ⟨?_, ?_, ?_, ?_, ?_⟩, fun i => ?_⟩
  · rw [e 38 2 (by omega)]; omega
  · rw [e 38 2 (by omega)] at h1; omega
  · rw [e 0 1 (by omega)]; omega
  · rw [e 0 2 (by omega)]; omega
  · rw [e 17 6 (by omega)]; omega
  · rw [e 2 0 (by omega)]; omega
  · rw [e 18 0 (by omega)]; omega
  · rw [e2 94 0 (by omega) (by omega)]; omega
  · rw [e2 109 0 (by omega) (by omega)]; omega
  · rw [e2 124 0 (by omega) (by omega)]; omega
  · rw [nw_low (c := 49) (by omega) (by omega) (by omega)]; omega
theorem zI6_176 : ∀ p : Fin 40, zI6 176 p.val = 1 := by decide +kernel
theorem zI6_203 : ∀ p : Fin 3, zI6 203 p.val = 0 := by decide +kernel
theorem nw_28 : nw.1 139 28 = 0 := by decide +kernel
theorem nw_49 : nw.1 139 49 = -1 := by decide +kernel
theorem nw_63 : nw.1 139 63 = 0 := by decide +kernel
theorem nw_92 : nw.1 139 92 = 0 := by decide +kernel
theorem nw_2 : nw.1 139 2 = 0 := by decide +kernel
theorem nw_93 : nw.1 139 93 = 0 := by decide +kernel
theorem nw_142 : nw.1 142 0 = 0 := by decide +kernel
theorem nw_143 : nw.1 143 0 = 0 := by decide +kernel
theorem nw_144 : nw.1 144 0 = 0 := by decide +kernel
theorem nw_WF : WF nw 0 := by
  unfold WF
  rw [nw_142, nw_143, nw_144]
  refine ⟨fun p _ _ => by omega, ⟨by omega, by omega, fun _ => rfl, fun h => by omega, fun d _ _ => by omega, fun d _ _ => by omega⟩, fun p _ _ => by omega, fun p _ _ => by omega, ⟨by omega, fun k _ _ => by omega, fun p _ _ => by omega⟩, ?_, by omega⟩
  unfold T6
  all_goals first | omega | (intros; omega) | skip
theorem nw_IM : IM nw := by
  refine ⟨⟨by rw [nw_28]; omega, by rw [nw_28]; exact ⟨nw_WF, by rw [nw_143]; decide⟩⟩, fun h => ?_, fun p h0 h1 => ?_, ?_, fun h => absurd nw_63 h, ⟨?_, ?_⟩, fun k h0 h1 h => ?_⟩
  · rw [nw_49, nw_28] at h; omega
  · have e : nw.1 176 p = 1 := by
      show (zI6 176 p.toNat).toInt = 1
      rw [zI6_176 ⟨p.toNat, by omega⟩]; rfl
    rw [e]; omega
  · unfold RG; rw [nw_92]; omega
  · rw [nw_2]; omega
  · rw [nw_93]; omega
  · refine absurd ?_ h
    show (zI6 203 k.toNat).toInt = 0
    rw [zI6_203 ⟨k.toNat, by omega⟩]; rfl
def IN2 (x m : ST) : Prop := IX x ∧ IM m ∧ x.1 0 1 = m.1 139 2 ∧ x.1 0 2 = m.1 139 93
theorem nw_IN2 : IN2 nw nw := ⟨nw_IX, nw_IM, by rw [nw_2]; exact nw_low (by omega) (by omega) (by omega), by rw [nw_93]; exact nw_low (by omega) (by omega) (by omega)⟩
theorem IN2.k {x m x' m' : ST} (h : IN2 x m) (k : KX x x') (l : KP m m') : IN2 x' m' := ⟨k.1, l.1, k.2.1.trans (h.2.2.1.trans l.2.1.symm), k.2.2.1.trans (h.2.2.2.trans l.2.2.1.symm)⟩
theorem IN2.ka {x m m' : ST} (h : IN2 x m) (l : KP m m') : IN2 x m' := h.k (.rf h.1) l
theorem KP.rf {m : ST} (h : IM m) : KP m m := ⟨h, rfl, rfl, rfl, rfl, rfl⟩
