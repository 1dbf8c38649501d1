/-! THE CLASS: its methods return, but program and run -/
section X10S
variable {s : ST}
theorem cx_tape {s s' : ST} (h : IX s) (e : ∀ c, c = 17 ∨ c = 38 ∨ c = 39 ∨ c = 51 ∨ c = 54 ∨ c = 55 ∨ c = 59 ∨ c = 62 ∨ c = 63 ∨ c = 49 ∨ c = 2 ∨ c = 18 ∨ c = 94 ∨ c = 109 ∨ c = 124 → s'.1 c = s.1 c) (h1 : 0 ≤ s'.1 0 1 ∧ s'.1 0 1 ≤ 1600) (h2 : 0 ≤ s'.1 0 2 ∧ s'.1 0 2 ≤ 100000) : IX s' := by
  unfold IX KI AK ZX at *
  rw [e 17 (by decide), e 38 (by decide), e 39 (by decide), e 51 (by decide), e 59 (by decide), show (51 : Nat) + 3 = 54 from rfl, show (51 : Nat) + 4 = 55 from rfl, show (59 : Nat) + 3 = 62 from rfl, show (59 : Nat) + 4 = 63 from rfl, e 54 (by decide), e 55 (by decide), e 62 (by decide), e 63 (by decide), e 49 (by decide), e 2 (by decide), e 18 (by decide), e 94 (by decide), e 109 (by decide), e 124 (by decide)]
  exact ⟨h.1, h.2.1, h.2.2.1, h1, h2, h.2.2.2.2.2⟩
theorem i_X10_fits {Q : ST → Int → Prop} (h : IX s) (hQ : ∀ s' v, KX s s' → Q s' v) : C_X10_fits s Q := by
  refine s_X10_fits ?_
  (repeat' (with_reducible first | refine ⟨?_, ?_⟩ | intro _))
  refine x_X0_allFit (Or.inl rfl) (.rf h) fun s1 v k1 => ?_
  (repeat' (with_reducible first | refine ⟨?_, ?_⟩ | intro _))
  all_goals exact hQ _ _ k1
theorem i_X10_kind {p q : Int} {Q : ST → Int → Prop} (h : IX s) (hQ : ∀ s' v, KX s s' → Q s' v) : C_X10_kind s p q Q := by
  refine s_X10_kind fun _ _ _ => ⟨fun _ => hQ _ _ (.rf h), fun _ => x_X0_clashOf (Or.inl rfl) (.rf h) fun s3 v k3 _ => ⟨fun _ => ⟨P_node (k3.1.ak (Or.inl rfl)), x_X4_numberAt k3 fun s4 v4 k4 => hQ _ _ k4⟩, fun _ => hQ _ _ k3⟩⟩
theorem i_X10_clashes {p : Int64} {Q : ST → Int → Prop} (h : IX s) (hQ : ∀ s' v, KX s s' → Q s' v) : C_X10_clashes s p Q := by
  refine s_X10_clashes ?_
  (repeat' (with_reducible first | refine ⟨?_, ?_⟩ | intro _))
  all_goals first | exact hQ _ _ (.rf h) | skip
  refine x_X0_clashOf (Or.inl rfl) (.rf h) fun s3 v k3 => ?_
  (repeat' (with_reducible first | refine ⟨?_, ?_⟩ | intro _))
  all_goals exact hQ _ _ k3
theorem i_X10_core {Q : ST → Int64 → Prop} (h : IX s) (hQ : ∀ s' v, KX s s' → Q s' v) : C_X10_core s Q := by
  refine s_X10_core ?_
  (repeat' (with_reducible first | refine ⟨?_, ?_⟩ | intro _))
  exact x_X0_coreOfAll (Or.inl rfl) (.rf h) fun s1 v k1 => hQ _ _ k1
theorem i_X10_meets {p q : Int} {Q : ST → Int → Prop} (h : IX s) (hQ : ∀ s' v, KX s s' → Q s' v) : C_X10_meets s p q Q := by
  refine s_X10_meets ?_
  (repeat' (with_reducible first | refine ⟨?_, ?_⟩ | intro _))
  all_goals first | exact hQ _ _ (.rf h) | skip
  refine x_X0_allFit (Or.inl rfl) (.rf h) fun s3 v k3 => ?_
  (repeat' (with_reducible first | refine ⟨?_, ?_⟩ | intro _))
  all_goals first | exact hQ _ _ k3 | skip
  refine x_X0_meet (Or.inl rfl) k3 fun s4 v4 k4 => ?_
  (repeat' (with_reducible first | refine ⟨?_, ?_⟩ | intro _))
  all_goals exact hQ _ _ k4
theorem i_X10_cores {Q : ST → Int → Prop} (h : IX s) (hQ : ∀ s' v, KX s s' → Q s' v) : C_X10_cores s Q := by
  refine s_X10_cores ?_
  (repeat' (with_reducible first | refine ⟨?_, ?_⟩ | intro _))
  all_goals first | exact hQ _ _ (.rf h) | exact x_X5_find (.rf h) fun s1 k1 => hQ _ _ k1
theorem i_X10_mends {Q : ST → Int → Prop} (h : IX s) (hQ : ∀ s' v, KX s s' → Q s' v) : C_X10_mends s Q := by
  refine s_X10_mends ?_
  (repeat' (with_reducible first | refine ⟨?_, ?_⟩ | intro _))
  all_goals first | exact hQ _ _ (.rf h) | exact x_X5_find (.rf h) fun s1 k1 => hQ _ _ k1
theorem i_X10_coreAt {p : Int} {Q : ST → Int64 → Prop} (h : IX s) (hQ : ∀ s' v, KX s s' → Q s' v) : C_X10_coreAt s p Q := by
  refine s_X10_coreAt ?_
  (repeat' (with_reducible first | refine ⟨?_, ?_⟩ | intro _))
  all_goals first | exact hQ _ _ (.rf h) | exact x_X5_find (.rf h) fun s1 k1 => x_X5_clashAt fun v => hQ _ _ k1
theorem i_X10_mendAt {p : Int} {Q : ST → Int64 → Prop} (h : IX s) (hQ : ∀ s' v, KX s s' → Q s' v) : C_X10_mendAt s p Q := by
  refine s_X10_mendAt ?_
  (repeat' (with_reducible first | refine ⟨?_, ?_⟩ | intro _))
  all_goals first | exact hQ _ _ (.rf h) | exact x_X5_find (.rf h) fun s1 k1 => x_X5_mendNumbered fun v => hQ _ _ k1
theorem i_X10_left {p : Int} {Q : ST → Int → Prop} (h : IX s) (hQ : ∀ s' v, KX s s' → Q s' v) : C_X10_left s p Q := by
  refine s_X10_left ?_
  (repeat' (with_reducible first | refine ⟨?_, ?_⟩ | intro _))
  all_goals first | exact hQ _ _ (.rf h) | exact x_X5_find (.rf h) fun s1 k1 => x_X8_countingAt fun v => x_X5_countBeside fun w => hQ _ _ k1
theorem i_X10_sure {p : Int} {Q : ST → Int64 → Prop} (h : IX s) (hQ : ∀ s' v, KX s s' → Q s' v) : C_X10_sure s p Q := by
  refine s_X10_sure ?_
  (repeat' (with_reducible first | refine ⟨?_, ?_⟩ | intro _))
  all_goals first | exact hQ _ _ (.rf h) | exact x_X5_find (.rf h) fun s1 k1 => x_X8_countingAt fun v => x_X5_commonBeside fun w => hQ _ _ k1
theorem i_X10_cheapest {Q : ST → Int64 → Prop} (h : IX s) (hQ : ∀ s' v, KX s s' → Q s' v) : C_X10_cheapest s Q := by
  refine s_X10_cheapest ?_
  (repeat' (with_reducible first | refine ⟨?_, ?_⟩ | intro _))
  all_goals first | exact hQ _ _ (.rf h) | exact x_X1_find (.rf h) fun s1 v k1 => hQ _ _ k1
theorem i_X10_hints {Q : ST → Int → Prop} (h : IX s) (hQ : ∀ s' v, KX s s' → Q s' v) : C_X10_hints s Q := by
  refine s_X10_hints ?_
  (repeat' (with_reducible first | refine ⟨?_, ?_⟩ | intro _))
  all_goals first | exact hQ _ _ (.rf h) | exact x_X1_find (.rf h) fun s1 v k1 => x_X3_list k1 fun s2 k2 => hQ _ _ k2
theorem i_X10_hint {p q : Int} {Q : ST → Int → Prop} (h : IX s) (hQ : ∀ s' v, KX s s' → Q s' v) : C_X10_hint s p q Q := by
  refine s_X10_hint ?_
  (repeat' (with_reducible first | refine ⟨?_, ?_⟩ | intro _))
  all_goals first | exact hQ _ _ (.rf h) | skip
  refine x_X1_find (.rf h) fun s1 v k1 => x_X3_list k1 fun s2 k2 => ?_
  (repeat' (with_reducible first | refine ⟨?_, ?_⟩ | intro _))
  all_goals first | omega | exact hQ _ _ k2
theorem x_X10_goOnWith {o : Nat} {s0 : ST} {Q : ST → Int → Prop} (k : KX s0 s) (hQ : ∀ s' v, KX s0 s' → Q s' v) : C_X10_goOnWith o s Q := by
  refine s_X10_goOnWith ?_
  (repeat' (with_reducible first | refine ⟨?_, ?_⟩ | intro _))
  refine x_X9_copyFrom (Or.inl rfl) k.1 fun s1 k1 => x_X8_forget (k.tr k1) fun s2 k2 => x_X0_list (Or.inl rfl) k2.1 fun s3 k3 => ?_
  have k4 := k2.tr k3
  refine x_X1_forget (KX_put k4 (by omega) (fun e => by omega) (fun e => by omega)) fun s4 k5 => ?_
  exact hQ _ _ (KX_put (KX_put k5 (by omega) (fun e => by omega) (fun e => by omega)) (by omega) (fun e => by omega) (fun e => by omega))
theorem i_X10_apply {p : Int} {Q : ST → Int → Prop} (h : IX s) (hQ : ∀ s' v, KX s s' → Q s' v) : C_X10_apply s p Q := by
  refine s_X10_apply ?_
  (repeat' (with_reducible first | refine ⟨?_, ?_⟩ | intro _))
  all_goals first | exact hQ _ _ (.rf h) | skip
  refine x_X1_find (.rf h) fun s1 v k1 => x_X3_list k1 fun s2 k2 => ?_
  (repeat' (with_reducible first | refine ⟨?_, ?_⟩ | intro _))
  all_goals first | omega | exact hQ _ _ k2 | skip
  exact x_X2_write (Or.inl rfl) k2 fun s5 k5 => x_X10_goOnWith k5 fun s6 v6 k6 => hQ _ _ k6
end X10S
