/-! THE LAW: each round keeps both objects in order. By program (wip/wp/gen_p4.py). -/
theorem n5_0 {xs : Nat → Int32} {x m : ST} {i : Int} {N : ST → ST → Prop} (h : IN5 x m) (hN : ∀ x' m', IN5 x' m' → N x' m') : lw0 xs x m i N := by
  unfold lw0
  exact al_feed (G := fun x1 _ m2 _ => N x1 m2) h fun x1 m2 v h' => hN _ _ h'
theorem n5_1 {xs : Nat → Int32} {x m : ST} {i : Int} {N : ST → ST → Prop} (h : IN5 x m) (hN : ∀ x' m', IN5 x' m' → N x' m') : lw1 xs x m i N := by
  unfold lw1
  exact al_end (G := fun x1 _ m2 _ => N x1 m2) h fun x1 m2 v h' => hN _ _ h'
theorem n5_2 {xs : Nat → Int32} {x m : ST} {i : Int} {N : ST → ST → Prop} (h : IN5 x m) (hN : ∀ x' m', IN5 x' m' → N x' m') : lw2 xs x m i N := by
  unfold lw2
  exact al_program (G := fun x1 _ m2 _ => N x1 m2) h fun x1 m2 v h' => hN _ _ h'
theorem n5_3 {xs : Nat → Int32} {x m : ST} {i : Int} {N : ST → ST → Prop} (h : IN5 x m) (hN : ∀ x' m', IN5 x' m' → N x' m') : lw3 xs x m i N := by
  unfold lw3
  exact al_fault (G := fun x1 v1 m2 v2 => v1 = v2 ∧ N x1 m2) h fun v => ⟨rfl, hN _ _ h⟩
theorem n5_4 {xs : Nat → Int32} {x m : ST} {i : Int} {N : ST → ST → Prop} (h : IN5 x m) (hN : ∀ x' m', IN5 x' m' → N x' m') : lw4 xs x m i N := by
  unfold lw4
  exact i_X10_place fun v1 => i_X11_place h.1.2.1 fun v2 => hN _ _ h
theorem n5_5 {xs : Nat → Int32} {x m : ST} {i : Int} {N : ST → ST → Prop} (h : IN5 x m) (hN : ∀ x' m', IN5 x' m' → N x' m') : lw5 xs x m i N := by
  unfold lw5
  exact i_X10_fits h.1.1 fun x1 v1 k1 => i_X11_fits h.1.2.1 fun m2 v2 k2 => hN _ _ (h.k k1 k2)
theorem n5_6 {xs : Nat → Int32} {x m : ST} {i : Int} {N : ST → ST → Prop} (h : IN5 x m) (hN : ∀ x' m', IN5 x' m' → N x' m') : lw6 xs x m i N := by
  unfold lw6
  exact i_X10_kind h.1.1 fun x1 v1 k1 => i_X11_kind h.1.2.1 fun m2 v2 k2 => hN _ _ (h.k k1 k2)
theorem n5_7 {xs : Nat → Int32} {x m : ST} {i : Int} {N : ST → ST → Prop} (h : IN5 x m) (hN : ∀ x' m', IN5 x' m' → N x' m') : lw7 xs x m i N := by
  unfold lw7
  exact i_X10_clashes h.1.1 fun x1 v1 k1 => i_X11_clashes h.1.2.1 fun m2 v2 k2 => hN _ _ (h.k k1 k2)
theorem n5_8 {xs : Nat → Int32} {x m : ST} {i : Int} {N : ST → ST → Prop} (h : IN5 x m) (hN : ∀ x' m', IN5 x' m' → N x' m') : lw8 xs x m i N := by
  unfold lw8
  exact i_X10_core h.1.1 fun x1 v1 k1 => i_X11_core h.1.2.1 fun m2 v2 k2 => hN _ _ (h.k k1 k2)
theorem n5_9 {xs : Nat → Int32} {x m : ST} {i : Int} {N : ST → ST → Prop} (h : IN5 x m) (hN : ∀ x' m', IN5 x' m' → N x' m') : lw9 xs x m i N := by
  unfold lw9
  exact i_X10_meets h.1.1 fun x1 v1 k1 => i_X11_meets h.1.2.1 fun m2 v2 k2 => hN _ _ (h.k k1 k2)
theorem n5_10 {xs : Nat → Int32} {x m : ST} {i : Int} {N : ST → ST → Prop} (h : IN5 x m) (hN : ∀ x' m', IN5 x' m' → N x' m') : lw10 xs x m i N := by
  unfold lw10
  exact i_X10_cores h.1.1 fun x1 v1 k1 => i_X11_cores h.1.2.1 fun m2 v2 k2 => hN _ _ (h.k k1 k2)
theorem n5_11 {xs : Nat → Int32} {x m : ST} {i : Int} {N : ST → ST → Prop} (h : IN5 x m) (hN : ∀ x' m', IN5 x' m' → N x' m') : lw11 xs x m i N := by
  unfold lw11
  exact i_X10_coreAt h.1.1 fun x1 v1 k1 => i_X11_coreAt h.1.2.1 fun m2 v2 k2 => hN _ _ (h.k k1 k2)
theorem n5_12 {xs : Nat → Int32} {x m : ST} {i : Int} {N : ST → ST → Prop} (h : IN5 x m) (hN : ∀ x' m', IN5 x' m' → N x' m') : lw12 xs x m i N := by
  unfold lw12
  exact i_X10_trust h.1.1 fun x1 v1 k1 => i_X11_trust h.1.2.1 fun m2 v2 k2 => hN _ _ (h.k k1 k2)
theorem n5_13 {xs : Nat → Int32} {x m : ST} {i : Int} {N : ST → ST → Prop} (h : IN5 x m) (hN : ∀ x' m', IN5 x' m' → N x' m') : lw13 xs x m i N := by
  unfold lw13
  exact i_X10_cheapest h.1.1 fun x1 v1 k1 => i_X11_cheapest h.1.2.1 fun m2 v2 k2 => hN _ _ (h.k k1 k2)
theorem n5_14 {xs : Nat → Int32} {x m : ST} {i : Int} {N : ST → ST → Prop} (h : IN5 x m) (hN : ∀ x' m', IN5 x' m' → N x' m') : lw14 xs x m i N := by
  unfold lw14
  exact i_X10_mends h.1.1 fun x1 v1 k1 => i_X11_mends h.1.2.1 fun m2 v2 k2 => hN _ _ (h.k k1 k2)
theorem n5_15 {xs : Nat → Int32} {x m : ST} {i : Int} {N : ST → ST → Prop} (h : IN5 x m) (hN : ∀ x' m', IN5 x' m' → N x' m') : lw15 xs x m i N := by
  unfold lw15
  exact i_X10_mendAt h.1.1 fun x1 v1 k1 => i_X11_mendAt h.1.2.1 fun m2 v2 k2 => hN _ _ (h.k k1 k2)
theorem n5_16 {xs : Nat → Int32} {x m : ST} {i : Int} {N : ST → ST → Prop} (h : IN5 x m) (hN : ∀ x' m', IN5 x' m' → N x' m') : lw16 xs x m i N := by
  unfold lw16
  exact i_X10_hints h.1.1 fun x1 v1 k1 => i_X11_hints h.1.2.1 fun m2 v2 k2 => hN _ _ (h.k k1 k2)
theorem n5_17 {xs : Nat → Int32} {x m : ST} {i : Int} {N : ST → ST → Prop} (h : IN5 x m) (hN : ∀ x' m', IN5 x' m' → N x' m') : lw17 xs x m i N := by
  unfold lw17
  exact i_X10_hint h.1.1 fun x1 v1 k1 => i_X11_hint h.1.2.1 fun m2 v2 k2 => hN _ _ (h.k k1 k2)
theorem n5_18 {xs : Nat → Int32} {x m : ST} {i : Int} {N : ST → ST → Prop} (h : IN5 x m) (hN : ∀ x' m', IN5 x' m' → N x' m') : lw18 xs x m i N := by
  unfold lw18
  exact i_X10_apply h.1.1 fun x1 v1 k1 => i_X11_apply h.1.2.1 fun m2 v2 k2 => hN _ _ (h.k k1 k2)
theorem n5_19 {xs : Nat → Int32} {x m : ST} {i : Int} {N : ST → ST → Prop} (h : IN5 x m) (hN : ∀ x' m', IN5 x' m' → N x' m') : lw19 xs x m i N := by
  unfold lw19
  exact i_X10_run h.1.1 fun x1 v1 k1 => i_X11_run h.1.2.1 fun m2 v2 k2 => hN _ _ (h.k k1 k2)
theorem n5_20 {xs : Nat → Int32} {x m : ST} {i : Int} {N : ST → ST → Prop} (h : IN5 x m) (hN : ∀ x' m', IN5 x' m' → N x' m') : lw20 xs x m i N := by
  unfold lw20
  exact i_X10_right h.1.1 fun x1 v1 k1 => i_X11_right h.1.2.1 fun m2 v2 k2 => hN _ _ (h.k k1 k2)
theorem n5_21 {xs : Nat → Int32} {x m : ST} {i : Int} {N : ST → ST → Prop} (h : IN5 x m) (hN : ∀ x' m', IN5 x' m' → N x' m') : lw21 xs x m i N := by
  unfold lw21
  exact i_X10_untell h.1.1 fun x1 v1 k1 => i_X11_untell h.1.2.1 fun m2 v2 k2 => hN _ _ (h.k k1 k2)
theorem n5_22 {xs : Nat → Int32} {x m : ST} {i : Int} {N : ST → ST → Prop} (h : IN5 x m) (hN : ∀ x' m', IN5 x' m' → N x' m') : lw22 xs x m i N := by
  unfold lw22
  exact al_later (G := fun x1 _ m2 _ => N x1 m2) h fun x1 m2 v h' => hN _ _ h'
theorem n5_23 {xs : Nat → Int32} {x m : ST} {i : Int} {N : ST → ST → Prop} (h : IN5 x m) (hN : ∀ x' m', IN5 x' m' → N x' m') : lw23 xs x m i N := by
  unfold lw23
  exact i_X10_left h.1.1 fun x1 v1 k1 => i_X11_left h.1.2.1 fun m2 v2 k2 => hN _ _ (h.k k1 k2)
theorem n5_24 {xs : Nat → Int32} {x m : ST} {i : Int} {N : ST → ST → Prop} (h : IN5 x m) (hN : ∀ x' m', IN5 x' m' → N x' m') : lw24 xs x m i N := by
  unfold lw24
  exact i_X10_sure h.1.1 fun x1 v1 k1 => i_X11_sure h.1.2.1 fun m2 v2 k2 => hN _ _ (h.k k1 k2)
theorem n5_25 {xs : Nat → Int32} {x m : ST} {i : Int} {N : ST → ST → Prop} (h : IN5 x m) (hN : ∀ x' m', IN5 x' m' → N x' m') : lw25 xs x m i N := by
  unfold lw25
  exact i_X10_image h.1.1 fun x1 v1 k1 => i_X11_image h.1.2.1 fun m2 v2 k2 => hN _ _ (h.k k1 k2)
theorem n5_26 {xs : Nat → Int32} {x m : ST} {i : Int} {N : ST → ST → Prop} (h : IN5 x m) (hN : ∀ x' m', IN5 x' m' → N x' m') : lw26 xs x m i N := by
  unfold lw26
  exact i_X10_back h.1.1 fun x1 v1 k1 => i_X11_back h.1.2.1 fun m2 v2 k2 => hN _ _ (h.k k1 k2)
theorem n5_27 {xs : Nat → Int32} {x m : ST} {i : Int} {N : ST → ST → Prop} (h : IN5 x m) (hN : ∀ x' m', IN5 x' m' → N x' m') : lw27 xs x m i N := by
  unfold lw27
  exact i_X10_about fun v1 => i_X11_about h.1.2.1 fun v2 => hN _ _ h
theorem n5_step {xs : Nat → Int32} {x m : ST} {i : Int} {N : ST → ST → Prop} (h : IN5 x m) (hN : ∀ x' m', IN5 x' m' → N x' m') : lawStep xs x m i N := by
  unfold lawStep
  refine ⟨fun _ => n5_0 h hN, fun _ => n5_1 h hN, fun _ => n5_2 h hN, fun _ => n5_3 h hN, fun _ => n5_4 h hN, fun _ => n5_5 h hN, fun _ => n5_6 h hN, fun _ => n5_7 h hN, fun _ => n5_8 h hN, fun _ => n5_9 h hN, fun _ => n5_10 h hN, fun _ => n5_11 h hN, fun _ => n5_12 h hN, fun _ => n5_13 h hN, fun _ => n5_14 h hN, fun _ => n5_15 h hN, fun _ => n5_16 h hN, fun _ => n5_17 h hN, fun _ => n5_18 h hN, fun _ => n5_19 h hN, fun _ => n5_20 h hN, fun _ => n5_21 h hN, fun _ => n5_22 h hN, fun _ => n5_23 h hN, fun _ => n5_24 h hN, fun _ => n5_25 h hN, fun _ => n5_26 h hN, fun _ => n5_27 h hN, fun _ => hN _ _ h⟩
theorem law_five {b L : Nat} {xs : Nat → Int32} (hL : L ≤ 3072) : q_K mL (q_z (fun _ _ => 0) (fun _ _ => 0) (fun _ _ => none) 0) 0 0 0 [(0, .ref 1002)] [] (q_FL b L xs) := by
  refine law_entry ?_
  have := law_loop (b := b) (L := L) (xs := xs) (kc := law_kc) (ks := law_ks) ⟨rfl, rfl⟩ hL (fun _ x m => IN5 x m) (fun k x m hI _ _ hk => n5_step hI fun _ _ h => h) L 0 nw nw (by omega) (by omega) nw_ra nw_ra nw_IN5
  unfold KL at this
  rw [nw_jn, nw_qs] at this
  exact this
