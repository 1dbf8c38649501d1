/-! THE REFERENCE: bits; core, cores, mends, left, sure, trust -/
def lbt (x : Int64) (p : Nat) : Bool := x.toBitVec.getLsbD p
theorem lbt_and (x y : Int64) (p : Nat) : lbt (x &&& y) p = (lbt x p && lbt y p) := by unfold lbt; rw [Int64.toBitVec_and, BitVec.getLsbD_and]
theorem lbt_or (x y : Int64) (p : Nat) : lbt (x ||| y) p = (lbt x p || lbt y p) := by unfold lbt; rw [Int64.toBitVec_or, BitVec.getLsbD_or]
theorem lbt_m1 : ∀ p, p < 64 → lbt (-1) p = true := by decide +kernel
theorem lbt_not (x : Int64) {p : Nat} (hp : p < 64) : lbt (x ^^^ (-1)) p = !lbt x p := by
  have h := lbt_m1 p hp
  unfold lbt at *
  rw [Int64.toBitVec_xor, BitVec.getLsbD_xor, h]
  cases x.toBitVec.getLsbD p <;> rfl
theorem sh_c : ∀ n : Nat, n < 64 → (((Int32.ofInt (n : Int)).toInt64 &&& 63).toBitVec.smod 64).toNat = n := by decide +kernel
theorem lbt_one : ∀ n : Nat, n < 64 → ∀ p : Nat, p < 64 → lbt (lshl 1 (n : Int)) p = decide (p = n) := by decide +kernel
theorem lbt_shr (x : Int64) {n : Nat} (h : n < 64) : lbt (lshr x (n : Int)) 0 = lbt x n := by
  unfold lbt lshr
  rw [Int64.toBitVec_shiftRight, BitVec.sshiftRight_eq', sh_c n h, BitVec.getLsbD_sshiftRight, Nat.add_zero, if_pos h]
  rfl
theorem lbt_a1 (x : Int64) : (x &&& 1) = if lbt x 0 = true then 1 else 0 := by
  apply Int64.toBitVec_inj.mp
  apply BitVec.eq_of_getLsbD_eq
  intro i hi
  rw [Int64.toBitVec_and, BitVec.getLsbD_and]
  have h1 : (1 : Int64).toBitVec = 1#64 := rfl
  have h0 : (0 : Int64).toBitVec = 0#64 := rfl
  by_cases c : lbt x 0 = true
  · rw [if_pos c, h1, BitVec.getLsbD_one]
    by_cases e : i = 0
    · subst e
      have c : x.toBitVec.getLsbD 0 = true := c
      rw [c]; rfl
    · rw [decide_eq_false e, Bool.and_false, Bool.and_false]
  · rw [if_neg c, h1, h0, BitVec.getLsbD_one, BitVec.getLsbD_zero]
    by_cases e : i = 0
    · subst e
      have c : ¬ x.toBitVec.getLsbD 0 = true := c
      rw [Bool.eq_false_iff.mpr c]; rfl
    · rw [decide_eq_false e, Bool.and_false, Bool.and_false]
theorem lshr_0 {x : Int64} {a : Int} (h0 : 0 ≤ a) (h1 : a < 64) : ((lshr x a) &&& 1) = 0 ↔ lbt x a.toNat = false := by
  have h := lbt_shr x (n := a.toNat) (by omega)
  rw [show ((a.toNat : Nat) : Int) = a by omega] at h
  rw [lbt_a1, h]
  cases lbt x a.toNat <;> decide
theorem lshr_1 {x : Int64} {a : Int} (h0 : 0 ≤ a) (h1 : a < 64) : ((lshr x a) &&& 1) = 1 ↔ lbt x a.toNat = true := by
  have h := lbt_shr x (n := a.toNat) (by omega)
  rw [show ((a.toNat : Nat) : Int) = a by omega] at h
  rw [lbt_a1, h]
  cases lbt x a.toNat <;> decide
theorem lbt_lshl {a : Int} (h0 : 0 ≤ a) (h1 : a < 64) {p : Nat} (hp : p < 64) : lbt (lshl 1 a) p = decide (p = a.toNat) := by
  have := lbt_one a.toNat (by omega) p hp
  rw [show ((a.toNat : Nat) : Int) = a by omega] at this
  exact this
def sub64 (v w : Int64) : Prop := ∀ p, p < 64 → lbt v p = true → lbt w p = true
theorem k_core5 {Q : ST → Int64 → Prop} : ∀ (m : Nat) (s : ST) (v w : Int64) (j : Int), 40 - j ≤ (m : Int) → 0 ≤ j → BK s → TI s → sub64 v w → (∀ s' v, md [] [164, 165, 166] s s' → sub64 v w → Q s' v) → K_X11_coreOf_5 s v j Q := by
  intro m
  induction m with
  | zero =>
    intro s v w j hm h0 hb ht hs hQ
    have := hb.1
    have := hb.2.1.nn
    refine s_X11_coreOf_5 ?_
    (repeat' (with_reducible first | refine ⟨?_, ?_⟩ | intro _))
    all_goals first | omega | exact hQ _ _ md.rf hs
  | succ m ih =>
    intro s v w j hm h0 hb ht hs hQ
    have := hb.1
    have := hb.2.1.nn
    refine s_X11_coreOf_5 ?_
    (repeat' (with_reducible first | refine ⟨?_, ?_⟩ | intro _))
    all_goals first | omega | exact hQ _ _ md.rf hs | exact ih s v w (j + 1) (by omega) (by omega) hb ht hs hQ | skip
    refine c_X11_clash ht fun s3 v3 m3 _ => ?_
    have hb3 := hb.keep m3 (by decide) (by decide)
    have ht3 := ht.keep m3
    (repeat' (with_reducible first | refine ⟨?_, ?_⟩ | intro _))
    all_goals first | omega | skip
    · exact ih s3 v w (j + 1) (by omega) (by omega) hb3 ht3 hs (fun s' v' m' h' => hQ s' v' (m3.tr m') h')
    · exact ih s3 _ w (j + 1) (by omega) (by omega) hb3 ht3 (fun p hp h => hs p hp (by rw [lbt_and, Bool.and_eq_true] at h; exact h.1)) (fun s' v' m' h' => hQ s' v' (m3.tr m') h')
theorem c_X11_coreOf {s : ST} {v : Int64} {Q : ST → Int64 → Prop} (hb : BK s) (ht : TI s) (hQ : ∀ s' w, md [] [164, 165, 166] s s' → sub64 w v → Q s' w) : C_X11_coreOf s v Q :=
  s_X11_coreOf fun _ => k_core5 40 s v v 0 (by omega) (by omega) hb ht (fun _ _ h => h) hQ
theorem c_X11_core {s : ST} {Q : ST → Int64 → Prop} (hb : BK s) (hl : LD s) (hQ : ∀ s' v, md qF qC s s' → LAID s' → Q s' v) : C_X11_core s Q := by
  refine s_X11_core fun _ => c_X11_layNow hb hl fun s1 m1 l1 => ?_
  have hb1 := hb.keep m1 (by decide) (by decide)
  refine ⟨Pall hb1, c_X11_clash l1.2.1 fun s4 v4 m4 _ => ?_⟩
  have l4 := l1.keep (m4.mono (by decide) (by decide))
  have hb4 := hb1.keep m4 (by decide) (by decide)
  have m14 := m1.tr (m4.mono (fs' := qF) (cs' := qC) (by decide) (by decide))
  refine fun _ => ⟨fun _ => hQ _ _ m14 l4, fun _ => ⟨Pall hb4, c_X11_coreOf hb4 l4.2.1 fun s7 v7 m7 _ => ?_⟩⟩
  exact hQ _ _ (m14.tr (m7.mono (by decide) (by decide))) (l4.keep (m7.mono (by decide) (by decide)))
theorem ishl12 {n : Int} (h0 : 0 ≤ n) (h1 : n ≤ 12) : 1 ≤ ishl 1 n ∧ ishl 1 n ≤ 4096 := by
  have : n = 0 ∨ n = 1 ∨ n = 2 ∨ n = 3 ∨ n = 4 ∨ n = 5 ∨ n = 6 ∨ n = 7 ∨ n = 8 ∨ n = 9 ∨ n = 10 ∨ n = 11 ∨ n = 12 := by omega
  rcases this with rfl | rfl | rfl | rfl | rfl | rfl | rfl | rfl | rfl | rfl | rfl | rfl | rfl <;> decide +kernel
theorem ishl11 {n : Int} (h0 : 0 ≤ n) (h1 : n ≤ 11) : 0 ≤ ishl 1 n ∧ ishl 1 n < 4096 := by
  have : n = 0 ∨ n = 1 ∨ n = 2 ∨ n = 3 ∨ n = 4 ∨ n = 5 ∨ n = 6 ∨ n = 7 ∨ n = 8 ∨ n = 9 ∨ n = 10 ∨ n = 11 := by omega
  rcases this with rfl | rfl | rfl | rfl | rfl | rfl | rfl | rfl | rfl | rfl | rfl | rfl <;> decide +kernel
theorem iand_comm (x y : Int) : iand x y = iand y x := by unfold iand; rw [Int32.and_comm]
theorem iand_le1 {x y : Int} (h0 : 0 ≤ x) (h1 : x ≤ 2147483647) : 0 ≤ iand x y ∧ iand x y ≤ x := by rw [iand_comm]; exact iand_le h0 h1
theorem ior_lt {x y : Int} (hx : 0 ≤ x ∧ x < 4096) (hy : 0 ≤ y ∧ y < 4096) : 0 ≤ ior x y ∧ ior x y < 4096 := by
  have ex : (BitVec.ofInt 32 x).toNat = x.toNat := by rw [BitVec.toNat_ofInt]; congr 1; omega
  have ey : (BitVec.ofInt 32 y).toNat = y.toNat := by rw [BitVec.toNat_ofInt]; congr 1; omega
  have ht : ((Int32.ofInt x ||| Int32.ofInt y).toBitVec).toNat < 4096 := by
    show ((Int32.ofInt x).toBitVec ||| (Int32.ofInt y).toBitVec).toNat < 4096
    rw [BitVec.toNat_or]
    show (BitVec.ofInt 32 x).toNat ||| (BitVec.ofInt 32 y).toNat < 4096
    rw [ex, ey]
    exact Nat.or_lt_two_pow (n := 12) (by omega) (by omega)
  have hi : ior x y = (((Int32.ofInt x ||| Int32.ofInt y).toBitVec).toNat : Int) := BitVec.toInt_eq_toNat_of_lt (by omega)
  omega
theorem k_layClashes {Q : ST → Int → Prop} : ∀ (m : Nat) (s : ST) (j : Int), 4096 - j ≤ (m : Int) → 0 ≤ j → BK s → s.1 142 (s.1 139 28) ≤ 12 → LAID s → (∀ s' v, md [] [164, 165, 166, 175] s s' → LAID s' → Q s' v) → K_X11_layClashes_22 s j Q := by
  intro m
  induction m with
  | zero =>
    intro s j hm h0 hb h12 hl hQ
    have := hb.1
    have := hb.2.1.nn
    have := ishl12 (n := s.1 142 (s.1 139 28)) (by omega) h12
    refine s_X11_layClashes_22 ?_
    (repeat' (with_reducible first | refine ⟨?_, ?_⟩ | intro _))
    all_goals first | omega | exact hQ _ _ md.rf hl
  | succ m ih =>
    intro s j hm h0 hb h12 hl hQ
    have := hb.1
    have := hb.2.1.nn
    have := ishl12 (n := s.1 142 (s.1 139 28)) (by omega) h12
    refine s_X11_layClashes_22 ?_
    (repeat' (with_reducible first | refine ⟨?_, ?_⟩ | intro _))
    all_goals first | omega | exact hQ _ _ md.rf hl | skip
    refine c_X11_clash hl.2.1 fun s2 v2 m2 _ => ?_
    (repeat' (with_reducible first | refine ⟨?_, ?_⟩ | intro _))
    all_goals first | omega | skip
    have m3 : md [] [164, 165, 166, 175] s (ui s2 175 j v2) := md.tr (m2.mono (by decide) (by decide)) (by repeat' (first | exact md.rf | assumption | refine md.ui ?_ ?_ | refine md.uj ?_ ?_ | exact Or.inr (by decide) | exact Or.inl (by decide)))
    have e1 := m3.f 139 28 (by decide) (by decide)
    have e2 := m3.c 142 (by decide) (by decide) (s.1 139 28)
    exact ih _ (j + 1) (by omega) (by omega) (hb.keep m3 (by decide) (by decide)) (by rw [e1]; omega) (hl.keep (m3.mono (by decide) (by decide))) (fun s' v' m' l' => hQ s' v' (m3.tr m') l')
theorem c_X11_layClashes {s : ST} {Q : ST → Int → Prop} (hb : BK s) (hl : LD s) (hQ1 : ∀ s' v, s.1 142 (s.1 139 28) ≤ 12 → md qF qC s s' → LAID s' → Q s' v) (hQ2 : 12 < s.1 142 (s.1 139 28) → Q s 0) : C_X11_layClashes s Q := by
  have := hb.1
  refine s_X11_layClashes ?_
  (repeat' (with_reducible first | refine ⟨?_, ?_⟩ | intro _))
  all_goals first | omega | exact hQ2 (by omega) | skip
  refine c_X11_layNow hb hl fun s1 m1 l1 => ?_
  have hb1 := hb.keep m1 (by decide) (by decide)
  have e1 := m1.f 139 28 (by decide) (by decide)
  have e2 := m1.c 142 (by decide) (by decide) (s.1 139 28)
  exact k_layClashes 4096 s1 0 (by omega) (by omega) hb1 (by rw [e1]; omega) l1 (fun s' v' m' l' => hQ1 s' v' (by omega) (m1.tr (m'.mono (by decide) (by decide))) l')
theorem k_isCore {p : Int} {s : ST} {Q : ST → Int → Prop} (hb : BK s) (hp : 0 ≤ p ∧ p < 4096) (hQ : ∀ v, Q s v) : ∀ (m : Nat) (j : Int), 40 - j ≤ (m : Int) → 0 ≤ j → K_X11_isCore_13 s p j Q := by
  have := hb.1
  have := hb.2.1.nn
  intro m
  induction m with
  | zero =>
    intro j hm h0
    refine s_X11_isCore_13 ?_
    (repeat' (with_reducible first | refine ⟨?_, ?_⟩ | intro _))
    all_goals first | omega | exact hQ _
  | succ m ih =>
    intro j hm h0
    have h2 := iand_le1 (y := ixor (ishl 1 j) (-1)) hp.1 (by omega)
    refine s_X11_isCore_13 ?_
    (repeat' (with_reducible first | refine ⟨?_, ?_⟩ | intro _))
    all_goals first | omega | exact hQ _ | exact ih (j + 1) (by omega) (by omega)
theorem c_X11_isCore {p : Int} {s : ST} {Q : ST → Int → Prop} (hb : BK s) (hp : 0 ≤ p ∧ p < 4096) (hQ : ∀ v, Q s v) : C_X11_isCore s p Q := by
  refine s_X11_isCore ?_
  (repeat' (with_reducible first | refine ⟨?_, ?_⟩ | intro _))
  all_goals first | omega | exact hQ _ | exact k_isCore hb hp hQ 40 0 (by omega) (by omega)
theorem k_isMend {p u : Int} {s : ST} {Q : ST → Int → Prop} (hb : BK s) (h12 : s.1 142 (s.1 139 28) ≤ 12) (hu : 0 ≤ u ∧ u < 4096) (hQ : ∀ v, Q s v) : ∀ (m : Nat) (j : Int), 40 - j ≤ (m : Int) → 0 ≤ j → K_X11_isMend_31 s p u j Q := by
  have := hb.1
  have := hb.2.1.nn
  intro m
  induction m with
  | zero =>
    intro j hm h0
    refine s_X11_isMend_31 ?_
    (repeat' (with_reducible first | refine ⟨?_, ?_⟩ | intro _))
    all_goals first | omega | exact hQ _
  | succ m ih =>
    intro j hm h0
    have h2 : j ≤ 11 → 0 ≤ ior u (ishl 1 j) ∧ ior u (ishl 1 j) < 4096 := fun h => ior_lt hu (ishl11 h0 h)
    refine s_X11_isMend_31 ?_
    (repeat' (with_reducible first | refine ⟨?_, ?_⟩ | intro _))
    all_goals first | omega | exact hQ _ | exact ih (j + 1) (by omega) (by omega)
theorem c_X11_isMend {p : Int} {s : ST} {Q : ST → Int → Prop} (hb : BK s) (h12 : s.1 142 (s.1 139 28) ≤ 12) (hQ : ∀ v, Q s v) : C_X11_isMend s p Q := by
  have := hb.1
  have := hb.2.1.nn
  have h1 := ishl12 (n := s.1 142 (s.1 139 28)) (by omega) h12
  have h2 := iand_le1 (x := ishl 1 (s.1 142 (s.1 139 28)) - 1) (y := ixor p (-1)) (by omega) (by omega)
  refine s_X11_isMend ?_
  (repeat' (with_reducible first | refine ⟨?_, ?_⟩ | intro _))
  all_goals first | omega | exact hQ _ | exact k_isMend hb h12 (by omega) hQ 40 0 (by omega) (by omega)
theorem k_counted {a b : Int} {s : ST} {Q : ST → Int → Prop} (hb : BK s) (h12 : s.1 142 (s.1 139 28) ≤ 12) (hQ : ∀ v, Q s v) : ∀ (m : Nat) (n j : Int), 4096 - j ≤ (m : Int) → 0 ≤ j → (0 ≤ n ∧ n ≤ j) → K_X11_counted_5 s a b n j Q := by
  have := hb.1
  have := hb.2.1.nn
  have h1 := ishl12 (n := s.1 142 (s.1 139 28)) (by omega) h12
  intro m
  induction m with
  | zero =>
    intro n j hm h0 hn
    refine s_X11_counted_5 ?_
    (repeat' (with_reducible first | refine ⟨?_, ?_⟩ | intro _))
    all_goals first | omega | exact hQ _
  | succ m ih =>
    intro n j hm h0 hn
    have k49 : j < 4096 → K_X11_counted_49 s a b n j Q := by
      intro hj
      refine s_X11_counted_49 ?_
      (repeat' (with_reducible first | refine ⟨?_, ?_⟩ | intro _))
      all_goals first | omega | exact hQ _ | exact ih (n + 1) (j + 1) (by omega) (by omega) (by omega)
    refine s_X11_counted_5 ?_
    (repeat' (with_reducible first | refine ⟨?_, ?_⟩ | intro _))
    all_goals first | omega | exact hQ _ | skip
    · refine c_X11_isCore hb (by omega) fun v => ?_
      (repeat' (with_reducible first | refine ⟨?_, ?_⟩ | intro _))
      all_goals first | omega | exact k49 (by omega) | exact ih n (j + 1) (by omega) (by omega) (by omega)
    · refine c_X11_isMend hb h12 fun v => ?_
      (repeat' (with_reducible first | refine ⟨?_, ?_⟩ | intro _))
      all_goals first | omega | exact k49 (by omega) | exact ih n (j + 1) (by omega) (by omega) (by omega)
theorem c_X11_counted {a b : Int} {s : ST} {Q : ST → Int → Prop} (hb : BK s) (h12 : s.1 142 (s.1 139 28) ≤ 12) (hQ : ∀ v, Q s v) : C_X11_counted s a b Q :=
  s_X11_counted fun _ _ _ => k_counted hb h12 hQ 4096 0 0 (by omega) (by omega) (by omega)
section CO
variable {s : ST}
theorem co_aux {a b : Int} {s1 : ST} {Q : ST → Int → Prop} (hb : BK s) (h12 : s.1 142 (s.1 139 28) ≤ 12) (m1 : md qF qC s s1) (hQ : ∀ v, Q s1 v) : C_X11_counted s1 a b Q := by
  have e1 := m1.f 139 28 (by decide) (by decide)
  have e2 := m1.c 142 (by decide) (by decide) (s.1 139 28)
  exact c_X11_counted (hb.keep m1 (by decide) (by decide)) (by rw [e1]; omega) hQ
theorem c_X11_cores {Q : ST → Int → Prop} (hb : BK s) (hl : LD s) (hQ : ∀ s' v, md qF qC s s' → LD s' → Q s' v) : C_X11_cores s Q := by
  refine s_X11_cores fun _ => c_X11_layClashes hb hl (fun s1 v1 h12 m1 l1 => ?_) (fun _ => ?_)
  · exact fun _ => ⟨fun _ => hQ _ _ m1 l1.ld, fun _ => co_aux hb h12 m1 fun v => hQ _ _ m1 l1.ld⟩
  · exact fun _ => ⟨fun _ => hQ _ _ md.rf hl, fun h => absurd rfl h⟩
theorem c_X11_mends {Q : ST → Int → Prop} (hb : BK s) (hl : LD s) (hQ : ∀ s' v, md qF qC s s' → LD s' → Q s' v) : C_X11_mends s Q := by
  refine s_X11_mends fun _ => c_X11_layClashes hb hl (fun s1 v1 h12 m1 l1 => ?_) (fun _ => ?_)
  · exact fun _ => ⟨fun _ => hQ _ _ m1 l1.ld, fun _ => co_aux hb h12 m1 fun v => hQ _ _ m1 l1.ld⟩
  · exact fun _ => ⟨fun _ => hQ _ _ md.rf hl, fun h => absurd rfl h⟩
theorem c_X11_coreAt {p : Int} {Q : ST → Int64 → Prop} (hb : BK s) (hl : LD s) (hQ : ∀ s' v, md qF qC s s' → LD s' → Q s' v) : C_X11_coreAt s p Q := by
  refine s_X11_coreAt fun _ _ => ⟨fun _ => hQ _ _ md.rf hl, fun _ => c_X11_layClashes hb hl (fun s1 v1 h12 m1 l1 => ?_) (fun _ => ?_)⟩
  · exact fun _ => ⟨fun _ => co_aux hb h12 m1 fun v => hQ _ _ m1 l1.ld, fun _ => hQ _ _ m1 l1.ld⟩
  · exact fun _ => ⟨fun h => absurd rfl h, fun _ => hQ _ _ md.rf hl⟩
theorem c_X11_mendAt {p : Int} {Q : ST → Int64 → Prop} (hb : BK s) (hl : LD s) (hQ : ∀ s' v, md qF qC s s' → LD s' → Q s' v) : C_X11_mendAt s p Q := by
  refine s_X11_mendAt fun _ _ => ⟨fun _ => hQ _ _ md.rf hl, fun _ => c_X11_layClashes hb hl (fun s1 v1 h12 m1 l1 => ?_) (fun _ => ?_)⟩
  · exact fun _ => ⟨fun _ => co_aux hb h12 m1 fun v => hQ _ _ m1 l1.ld, fun _ => hQ _ _ m1 l1.ld⟩
  · exact fun _ => ⟨fun h => absurd rfl h, fun _ => hQ _ _ md.rf hl⟩
end CO
