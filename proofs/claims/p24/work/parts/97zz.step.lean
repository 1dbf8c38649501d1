/-! THE LAW: each round keeps both objects in order. By program (wip/wp/gen_p2.py). -/
theorem n2_0 {xs : Nat → Int32} {x m : ST} {i : Int} {N : ST → ST → Prop} (h : IN2 x m) (hN : ∀ x' m', IN2 x' m' → N x' m') : lw0 xs x m i N := by
  have h3 := h.2.2.1
  have h4 := h.2.2.2
  unfold lw0
  refine i_X10_feed h.1 (fun g x1 a e2 e1 => i_X11_feed h.2.1 (fun g' m2 b f2 f1 _ _ => ?_) (fun g' => ?_)) (fun g => i_X11_feed h.2.1 (fun g' m2 b f2 f1 _ _ => ?_) (fun g' => ?_))
  · exact hN _ _ ⟨a, b, by omega, by omega⟩
  · exfalso; omega
  · exfalso; omega
  · exact hN _ _ h
theorem n2_1 {xs : Nat → Int32} {x m : ST} {i : Int} {N : ST → ST → Prop} (h : IN2 x m) (hN : ∀ x' m', IN2 x' m' → N x' m') : lw1 xs x m i N := by
  have h3 := h.2.2.1
  have h4 := h.2.2.2
  unfold lw1
  refine i_X10_end h.1 fun x1 v1 a e2 c1 => i_X11_end h.2.1 fun m2 v2 b f2 _ c2 => ?_
  exact hN _ _ ⟨a, b, by omega, by omega⟩
theorem n2_2 {xs : Nat → Int32} {x m : ST} {i : Int} {N : ST → ST → Prop} (h : IN2 x m) (hN : ∀ x' m', IN2 x' m' → N x' m') : lw2 xs x m i N := by
  have h3 := h.2.2.1
  have h4 := h.2.2.2
  unfold lw2
  exact i_X10_program h.1 fun x1 v1 a e1 e2 => i_X11_program h.2.1 fun m2 v2 b f2 f1 => hN _ _ ⟨a, b, by omega, by omega⟩
theorem n2_3 {xs : Nat → Int32} {x m : ST} {i : Int} {N : ST → ST → Prop} (h : IN2 x m) (hN : ∀ x' m', IN2 x' m' → N x' m') : lw3 xs x m i N := by
  have h3 := h.2.2.1
  have h4 := h.2.2.2
  unfold lw3
  exact i_X10_fault fun v1 => i_X11_fault fun v2 => hN _ _ h
theorem n2_4 {xs : Nat → Int32} {x m : ST} {i : Int} {N : ST → ST → Prop} (h : IN2 x m) (hN : ∀ x' m', IN2 x' m' → N x' m') : lw4 xs x m i N := by
  have h3 := h.2.2.1
  have h4 := h.2.2.2
  unfold lw4
  exact i_X10_place fun v1 => i_X11_place h.2.1 fun v2 => hN _ _ h
theorem n2_5 {xs : Nat → Int32} {x m : ST} {i : Int} {N : ST → ST → Prop} (h : IN2 x m) (hN : ∀ x' m', IN2 x' m' → N x' m') : lw5 xs x m i N := by
  have h3 := h.2.2.1
  have h4 := h.2.2.2
  unfold lw5
  exact i_X10_fits h.1 fun x1 v1 k1 => i_X11_fits h.2.1 fun m2 v2 k2 => hN _ _ (h.k k1 k2)
theorem n2_6 {xs : Nat → Int32} {x m : ST} {i : Int} {N : ST → ST → Prop} (h : IN2 x m) (hN : ∀ x' m', IN2 x' m' → N x' m') : lw6 xs x m i N := by
  have h3 := h.2.2.1
  have h4 := h.2.2.2
  unfold lw6
  exact i_X10_kind h.1 fun x1 v1 k1 => i_X11_kind h.2.1 fun m2 v2 k2 => hN _ _ (h.k k1 k2)
theorem n2_7 {xs : Nat → Int32} {x m : ST} {i : Int} {N : ST → ST → Prop} (h : IN2 x m) (hN : ∀ x' m', IN2 x' m' → N x' m') : lw7 xs x m i N := by
  have h3 := h.2.2.1
  have h4 := h.2.2.2
  unfold lw7
  exact i_X10_clashes h.1 fun x1 v1 k1 => i_X11_clashes h.2.1 fun m2 v2 k2 => hN _ _ (h.k k1 k2)
theorem n2_8 {xs : Nat → Int32} {x m : ST} {i : Int} {N : ST → ST → Prop} (h : IN2 x m) (hN : ∀ x' m', IN2 x' m' → N x' m') : lw8 xs x m i N := by
  have h3 := h.2.2.1
  have h4 := h.2.2.2
  unfold lw8
  exact i_X10_core h.1 fun x1 v1 k1 => i_X11_core h.2.1 fun m2 v2 k2 => hN _ _ (h.k k1 k2)
theorem n2_9 {xs : Nat → Int32} {x m : ST} {i : Int} {N : ST → ST → Prop} (h : IN2 x m) (hN : ∀ x' m', IN2 x' m' → N x' m') : lw9 xs x m i N := by
  have h3 := h.2.2.1
  have h4 := h.2.2.2
  unfold lw9
  exact i_X10_meets h.1 fun x1 v1 k1 => i_X11_meets h.2.1 fun m2 v2 k2 => hN _ _ (h.k k1 k2)
theorem n2_10 {xs : Nat → Int32} {x m : ST} {i : Int} {N : ST → ST → Prop} (h : IN2 x m) (hN : ∀ x' m', IN2 x' m' → N x' m') : lw10 xs x m i N := by
  have h3 := h.2.2.1
  have h4 := h.2.2.2
  unfold lw10
  exact i_X10_cores h.1 fun x1 v1 k1 => i_X11_cores h.2.1 fun m2 v2 k2 => hN _ _ (h.k k1 k2)
theorem n2_11 {xs : Nat → Int32} {x m : ST} {i : Int} {N : ST → ST → Prop} (h : IN2 x m) (hN : ∀ x' m', IN2 x' m' → N x' m') : lw11 xs x m i N := by
  have h3 := h.2.2.1
  have h4 := h.2.2.2
  unfold lw11
  exact i_X10_coreAt h.1 fun x1 v1 k1 => i_X11_coreAt h.2.1 fun m2 v2 k2 => hN _ _ (h.k k1 k2)
theorem n2_12 {xs : Nat → Int32} {x m : ST} {i : Int} {N : ST → ST → Prop} (h : IN2 x m) (hN : ∀ x' m', IN2 x' m' → N x' m') : lw12 xs x m i N := by
  have h3 := h.2.2.1
  have h4 := h.2.2.2
  unfold lw12
  exact i_X10_trust h.1 fun x1 v1 k1 => i_X11_trust h.2.1 fun m2 v2 k2 => hN _ _ (h.k k1 k2)
theorem n2_13 {xs : Nat → Int32} {x m : ST} {i : Int} {N : ST → ST → Prop} (h : IN2 x m) (hN : ∀ x' m', IN2 x' m' → N x' m') : lw13 xs x m i N := by
  have h3 := h.2.2.1
  have h4 := h.2.2.2
  unfold lw13
  exact i_X10_cheapest h.1 fun x1 v1 k1 => i_X11_cheapest h.2.1 fun m2 v2 k2 => hN _ _ (h.k k1 k2)
theorem n2_14 {xs : Nat → Int32} {x m : ST} {i : Int} {N : ST → ST → Prop} (h : IN2 x m) (hN : ∀ x' m', IN2 x' m' → N x' m') : lw14 xs x m i N := by
  have h3 := h.2.2.1
  have h4 := h.2.2.2
  unfold lw14
  exact i_X10_mends h.1 fun x1 v1 k1 => i_X11_mends h.2.1 fun m2 v2 k2 => hN _ _ (h.k k1 k2)
theorem n2_15 {xs : Nat → Int32} {x m : ST} {i : Int} {N : ST → ST → Prop} (h : IN2 x m) (hN : ∀ x' m', IN2 x' m' → N x' m') : lw15 xs x m i N := by
  have h3 := h.2.2.1
  have h4 := h.2.2.2
  unfold lw15
  exact i_X10_mendAt h.1 fun x1 v1 k1 => i_X11_mendAt h.2.1 fun m2 v2 k2 => hN _ _ (h.k k1 k2)
theorem n2_16 {xs : Nat → Int32} {x m : ST} {i : Int} {N : ST → ST → Prop} (h : IN2 x m) (hN : ∀ x' m', IN2 x' m' → N x' m') : lw16 xs x m i N := by
  have h3 := h.2.2.1
  have h4 := h.2.2.2
  unfold lw16
  exact i_X10_hints h.1 fun x1 v1 k1 => i_X11_hints h.2.1 fun m2 v2 k2 => hN _ _ (h.k k1 k2)
theorem n2_17 {xs : Nat → Int32} {x m : ST} {i : Int} {N : ST → ST → Prop} (h : IN2 x m) (hN : ∀ x' m', IN2 x' m' → N x' m') : lw17 xs x m i N := by
  have h3 := h.2.2.1
  have h4 := h.2.2.2
  unfold lw17
  exact i_X10_hint h.1 fun x1 v1 k1 => i_X11_hint h.2.1 fun m2 v2 k2 => hN _ _ (h.k k1 k2)
theorem n2_18 {xs : Nat → Int32} {x m : ST} {i : Int} {N : ST → ST → Prop} (h : IN2 x m) (hN : ∀ x' m', IN2 x' m' → N x' m') : lw18 xs x m i N := by
  have h3 := h.2.2.1
  have h4 := h.2.2.2
  unfold lw18
  exact i_X10_apply h.1 fun x1 v1 k1 => i_X11_apply h.2.1 fun m2 v2 k2 => hN _ _ (h.k k1 k2)
theorem n2_19 {xs : Nat → Int32} {x m : ST} {i : Int} {N : ST → ST → Prop} (h : IN2 x m) (hN : ∀ x' m', IN2 x' m' → N x' m') : lw19 xs x m i N := by
  have h3 := h.2.2.1
  have h4 := h.2.2.2
  unfold lw19
  exact i_X10_run h.1 fun x1 v1 k1 => i_X11_run h.2.1 fun m2 v2 k2 => hN _ _ (h.k k1 k2)
theorem n2_20 {xs : Nat → Int32} {x m : ST} {i : Int} {N : ST → ST → Prop} (h : IN2 x m) (hN : ∀ x' m', IN2 x' m' → N x' m') : lw20 xs x m i N := by
  have h3 := h.2.2.1
  have h4 := h.2.2.2
  unfold lw20
  exact i_X10_right h.1 fun x1 v1 k1 => i_X11_right h.2.1 fun m2 v2 k2 => hN _ _ (h.k k1 k2)
theorem n2_21 {xs : Nat → Int32} {x m : ST} {i : Int} {N : ST → ST → Prop} (h : IN2 x m) (hN : ∀ x' m', IN2 x' m' → N x' m') : lw21 xs x m i N := by
  have h3 := h.2.2.1
  have h4 := h.2.2.2
  unfold lw21
  exact i_X10_untell h.1 fun x1 v1 k1 => i_X11_untell h.2.1 fun m2 v2 k2 => hN _ _ (h.k k1 k2)
theorem n2_22 {xs : Nat → Int32} {x m : ST} {i : Int} {N : ST → ST → Prop} (h : IN2 x m) (hN : ∀ x' m', IN2 x' m' → N x' m') : lw22 xs x m i N := by
  have h3 := h.2.2.1
  have h4 := h.2.2.2
  unfold lw22
  refine i_X10_later h.1 fun x1 v1 a e2 c1 => i_X11_later h.2.1 fun m2 v2 b f2 c2 => ?_
  exact ⟨by omega, hN _ _ ⟨a, b, by omega, by omega⟩⟩
theorem n2_23 {xs : Nat → Int32} {x m : ST} {i : Int} {N : ST → ST → Prop} (h : IN2 x m) (hN : ∀ x' m', IN2 x' m' → N x' m') : lw23 xs x m i N := by
  have h3 := h.2.2.1
  have h4 := h.2.2.2
  unfold lw23
  exact i_X10_left h.1 fun x1 v1 k1 => i_X11_left h.2.1 fun m2 v2 k2 => hN _ _ (h.k k1 k2)
theorem n2_24 {xs : Nat → Int32} {x m : ST} {i : Int} {N : ST → ST → Prop} (h : IN2 x m) (hN : ∀ x' m', IN2 x' m' → N x' m') : lw24 xs x m i N := by
  have h3 := h.2.2.1
  have h4 := h.2.2.2
  unfold lw24
  exact i_X10_sure h.1 fun x1 v1 k1 => i_X11_sure h.2.1 fun m2 v2 k2 => hN _ _ (h.k k1 k2)
theorem n2_25 {xs : Nat → Int32} {x m : ST} {i : Int} {N : ST → ST → Prop} (h : IN2 x m) (hN : ∀ x' m', IN2 x' m' → N x' m') : lw25 xs x m i N := by
  have h3 := h.2.2.1
  have h4 := h.2.2.2
  unfold lw25
  exact i_X10_image h.1 fun x1 v1 k1 => i_X11_image h.2.1 fun m2 v2 k2 => hN _ _ (h.k k1 k2)
theorem n2_26 {xs : Nat → Int32} {x m : ST} {i : Int} {N : ST → ST → Prop} (h : IN2 x m) (hN : ∀ x' m', IN2 x' m' → N x' m') : lw26 xs x m i N := by
  have h3 := h.2.2.1
  have h4 := h.2.2.2
  unfold lw26
  exact i_X10_back h.1 fun x1 v1 k1 => i_X11_back h.2.1 fun m2 v2 k2 => hN _ _ (h.k k1 k2)
theorem n2_27 {xs : Nat → Int32} {x m : ST} {i : Int} {N : ST → ST → Prop} (h : IN2 x m) (hN : ∀ x' m', IN2 x' m' → N x' m') : lw27 xs x m i N := by
  have h3 := h.2.2.1
  have h4 := h.2.2.2
  unfold lw27
  exact i_X10_about fun v1 => i_X11_about h.2.1 fun v2 => hN _ _ h
theorem n2_step {xs : Nat → Int32} {x m : ST} {i : Int} {N : ST → ST → Prop} (h : IN2 x m) (hN : ∀ x' m', IN2 x' m' → N x' m') : lawStep xs x m i N := by
  unfold lawStep
  refine ⟨fun _ => n2_0 h hN, fun _ => n2_1 h hN, fun _ => n2_2 h hN, fun _ => n2_3 h hN, fun _ => n2_4 h hN, fun _ => n2_5 h hN, fun _ => n2_6 h hN, fun _ => n2_7 h hN, fun _ => n2_8 h hN, fun _ => n2_9 h hN, fun _ => n2_10 h hN, fun _ => n2_11 h hN, fun _ => n2_12 h hN, fun _ => n2_13 h hN, fun _ => n2_14 h hN, fun _ => n2_15 h hN, fun _ => n2_16 h hN, fun _ => n2_17 h hN, fun _ => n2_18 h hN, fun _ => n2_19 h hN, fun _ => n2_20 h hN, fun _ => n2_21 h hN, fun _ => n2_22 h hN, fun _ => n2_23 h hN, fun _ => n2_24 h hN, fun _ => n2_25 h hN, fun _ => n2_26 h hN, fun _ => n2_27 h hN, fun _ => hN _ _ h⟩
theorem law_two {b L : Nat} {xs : Nat → Int32} (hL : L ≤ 3072) : q_K mL (q_z (fun _ _ => 0) (fun _ _ => 0) (fun _ _ => none) 0) 0 0 0 [(0, .ref 1002)] [] (q_FL b L xs) := by
  refine law_entry ?_
  have := law_loop (b := b) (L := L) (xs := xs) (kc := law_kc) (ks := law_ks) ⟨rfl, rfl⟩ hL (fun _ x m => IN2 x m) (fun k x m hI _ _ hk => n2_step hI fun _ _ h => h) L 0 nw nw (by omega) (by omega) nw_ra nw_ra nw_IN2
  unfold KL at this
  rw [nw_jn, nw_qs] at this
  exact this
